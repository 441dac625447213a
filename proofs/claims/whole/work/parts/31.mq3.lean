abbrev t0 (σ : St) : St := up σ 111 0 0
/-- a refused call -/
def mrf (σ : St) (what : Int32) (r : Nat) : St := up (up (t0 σ) 111 0 what) 113 r (t0 σ 113 r + 1)
theorem vkz {c : Nat} {x : Int32} (h : c < ct x) : ¬ nI c < 0 ∧ nI c < x := by
  have hx := @ct_lt x
  refine ⟨?_, ?_⟩
  · rw [i_lt, i_nI (by omega)]; have : (0 : Int32).toInt = 0 := rfl; omega
  · rw [i_lt, i_nI (by omega)]; unfold ct at h; omega
theorem nob {k x : Int32} (h : ¬ k < 0 ∧ k < x) : 0 ≤ k ∧ k ≤ x - 1 := by
  obtain ⟨h1, h2⟩ := h
  refine ⟨i_nlt h1, ?_⟩
  rw [i_lt] at h1 h2
  have := i_hi x; have := i_lo x; have : (0 : Int32).toInt = 0 := rfl
  rw [i_le, i_sub (x := x) (y := 1) rfl (show (1 : Int32).toInt = 1 from rfl) (by omega) (by omega)]; omega
theorem nob' {k x : Int32} (hx : 0 ≤ x.toInt) (h : ¬ (¬ k < 0 ∧ k < x)) : ¬ (0 ≤ k ∧ k ≤ x - 1) := by
  intro z
  apply h
  obtain ⟨h1, h2⟩ := z
  have := i_hi x
  rw [i_le, i_sub (x := x) (y := 1) rfl (show (1 : Int32).toInt = 1 from rfl) (by omega) (by omega)] at h2
  exact ⟨i_lelt h1, by rw [i_lt]; omega⟩
def mcl (σ : St) (w : Int32) (c n : Nat) : Int32 := sm (fun j => b2 (w = 1 ∧ hB (σ 122 0) (nI j) ∧ σ (143 + j) 0 = nI c)) n
def mcd (σ : St) (w : Int32) (c n : Nat) (x : Int32) : Int32 := it (fun d a => a + b2 (w = 2 ∧ σ 122 (1 + d) = nI c)) x n
theorem mcd_s {σ : St} {w : Int32} {c n : Nat} {x : Int32} : mcd σ w c (n + 1) x = mcd σ w c n x + b2 (w = 2 ∧ σ 122 (1 + n) = nI c) := rfl
def mce (σ : St) (c : Nat) (w : Int32) : Int32 := if w = 0 then σ 117 c else if w = 3 then σ 122 (11 + c) else mcd σ w c (tl σ 2) (mcl σ w c (tl σ 1))
def mtd (σ : St) (w : Nat) : Int32 := if w < 5 then σ 115 w else if w = 5 then σ 122 27 else if w = 6 then σ 122 28 else if w = 7 then σ 122 23 else if w = 8 then σ 122 24 else if w = 9 then σ 122 25 else if w = 10 then σ 122 26 else if w = 11 then σ 111 37 else σ 111 39
def mli (σ : St) (j : Nat) (w : Nat) : Int32 := if w < 2 then σ (143 + j) w else (σ 122 0 >>> (nI j &&& 31)) &&& 1
def mdo (σ : St) (d w : Nat) : Int32 := if w = 0 then σ 122 (1 + d) else σ (152 + d) 1
def msh (σ : St) (s w : Nat) : Int32 := if w < 4 then σ (161 + s) w else if w = 4 then (σ 122 4 >>> (nI s &&& 31)) &&& 1 else σ 122 (5 + s)
def mtr (σ : St) (s : Nat) (w : Int32) : Int32 := if w = 0 then trF σ 122 s 111 42 else if w = 1 then trF σ 122 s 111 43 else if w = 2 then mal (trF σ 122 s) s else if w = 3 then mpa (trF σ 122 s) s else trF σ 122 s 111 44
def mfs (σ : St) (w : Int32) : Int32 := if w = 0 then (mft σ 9).1 else (mft σ 9).2
def mlo (σ : St) (w : Int32) : Int32 := if w = 0 then (mlF σ 60).1 else (mlF σ 60).2
def mshF (σ : St) : Int32 := (fnd (fun k => if (0 : Int32) < (mco σ (k + 1) (ct (1 <<< (nI (k + 1) &&& 31)))).1 then some (nI (k + 1)) else none) 8).getD (-1)
def mca3 (σ : St) (w : Int32) : Int32 := if w = 0 then (mcr σ (tl σ 0)).1 else if w = 1 then (mcr σ (tl σ 0)).2.1 else (mcr σ (tl σ 0)).2.2
abbrev msP (σ : St) (d : Nat) (n all : Int32) (k : Nat) : Prop := n * σ 119 d - n * σ 119 d / all * all < n * σ 119 k - n * σ 119 k / all * all ∨ (n * σ 119 k - n * σ 119 k / all * all = n * σ 119 d - n * σ 119 d / all * all ∧ nI k < nI d)
def msO (σ : St) (n all : Int32) (m : Nat) : Int32 := it (fun k a => a - n * σ 119 k / all) n m
def msA (σ : St) (d : Nat) (n all : Int32) (m : Nat) : Int32 := sm (fun k => b2 (msP σ d n all k)) m
def msr (σ : St) (d : Nat) (n : Int32) : Int32 := n * σ 119 d / mhd σ (tl σ 4) + b2 (msA σ d n (mhd σ (tl σ 4)) (tl σ 4) < msO σ n (mhd σ (tl σ 4)) (tl σ 4))
def mdw (σ : St) (c n : Nat) : Int32 := bt (fun s => mrP σ s c) n
/-- from m on, by p: the first that p divides -/
def fln (p : Int32) : Nat → Int32 → Int32
  | 0, m => m
  | n + 1, m => if fl0 m p then m else fln p n (m + 1)
abbrev alA (σ : St) (d j m : Nat) : Prop := fl0 (nI m) (σ (152 + d) 1) ∧ fl0 (nI m) (σ (143 + j) 1)
abbrev alO (σ : St) (d j m : Nat) : Prop := ¬ (fl0 (nI m) (σ (152 + d) 1) ↔ fl0 (nI m) (σ (143 + j) 1))
def mlA (σ : St) (d j n : Nat) : Int32 := bt (fun m => alA σ d j m) n
def mlO (σ : St) (d j n : Nat) : Int32 := bt (fun m => alO σ d j m) n
def mbB (σ : St) (c : Nat) (x : Int32 × Int32) : Int32 × Int32 := if msb σ 122 (nI c) (nI c) ≤ x.2 then x else (nI c, msb σ 122 (nI c) (nI c))
def mbr (σ : St) (n : Nat) : Int32 × Int32 := it (mbB σ) (-1, -1) n
theorem mbr_1 {σ : St} {i : Nat} (h : msb σ 122 (nI i) (nI i) ≤ (mbr σ i).2) : mbr σ (i + 1) = mbr σ i := by
  show mbB σ i (mbr σ i) = _; unfold mbB; rw [if_pos h]
theorem mbr_2 {σ : St} {i : Nat} (h : ¬ msb σ 122 (nI i) (nI i) ≤ (mbr σ i).2) : mbr σ (i + 1) = (nI i, msb σ 122 (nI i) (nI i)) := by
  show mbB σ i (mbr σ i) = _; unfold mbB; rw [if_neg h]
/-- wrecks: how many, their cargo, who is alive; the state -/
def mwk (ships : Int32) (s : Nat) (z : (Int32 × Int32 × Int32) × St) : (Int32 × Int32 × Int32) × St :=
  if b2 (hB ships (nI s)) = 0 then z else if trF z.2 122 s 111 42 = -1 then (z.1, trF z.2 122 s) else ((z.1.1 + 1, z.1.2.1 + trF z.2 122 s (161 + s) 0, z.1.2.2 + mal (trF z.2 122 s) s), trF z.2 122 s)
def mwr (σ : St) (ships : Int32) (n : Nat) : (Int32 × Int32 × Int32) × St := it (mwk ships) ((0, 0, 0), σ) n
theorem mwr_1 {σ : St} {ships : Int32} {i : Nat} (h : b2 (hB ships (nI i)) = 0) : mwr σ ships (i + 1) = mwr σ ships i := by
  show mwk ships i (mwr σ ships i) = _; unfold mwk; rw [if_pos h]
theorem mwr_2 {σ : St} {ships : Int32} {i : Nat} (h : ¬ b2 (hB ships (nI i)) = 0) (h2 : trF (mwr σ ships i).2 122 i 111 42 = -1) : mwr σ ships (i + 1) = ((mwr σ ships i).1, trF (mwr σ ships i).2 122 i) := by
  show mwk ships i (mwr σ ships i) = _; unfold mwk; rw [if_neg h, if_pos h2]
theorem mwr_3 {σ : St} {ships : Int32} {i : Nat} (h : ¬ b2 (hB ships (nI i)) = 0) (h2 : ¬ trF (mwr σ ships i).2 122 i 111 42 = -1) : mwr σ ships (i + 1) = (((mwr σ ships i).1.1 + 1, (mwr σ ships i).1.2.1 + trF (mwr σ ships i).2 122 i (161 + i) 0, (mwr σ ships i).1.2.2 + mal (trF (mwr σ ships i).2 122 i) i), trF (mwr σ ships i).2 122 i) := by
  show mwk ships i (mwr σ ships i) = _; unfold mwk; rw [if_neg h, if_neg h2]
theorem sq.wr {σ t : St} (h : sq σ t) {ships : Int32} {n : Nat} : sq σ (mwr t ships n).2 := by
  induction n with
  | zero => exact h
  | succ n ih =>
    by_cases hb : b2 (hB ships (nI n)) = 0
    · rw [mwr_1 hb]; exact ih
    · by_cases h2 : trF (mwr t ships n).2 122 n 111 42 = -1
      · rw [mwr_2 hb h2]; exact ih.tF
      · rw [mwr_3 hb h2]; exact ih.tF
def mwS (σ : St) (ships w : Int32) : Int32 := if w = 0 then (mwr σ ships (tl σ 3)).1.1 else if w = 1 then (mwr σ ships (tl σ 3)).1.2.1 else (mwr σ ships (tl σ 3)).1.2.2
/-- reefs: the longest row, its first, the row now, all -/
def mreB (σ : St) (c : Nat) (x : Int32 × Int32 × Int32 × Int32) : Int32 × Int32 × Int32 × Int32 :=
  if σ 117 c ≤ 0 then (if 0 ≤ x.1 then (x.1, x.2.1, 0, x.2.2.2 + σ 117 c) else (0, nI c - 0 + 1, 0, x.2.2.2 + σ 117 c)) else (if x.2.2.1 + 1 ≤ x.1 then (x.1, x.2.1, x.2.2.1 + 1, x.2.2.2 + σ 117 c) else (x.2.2.1 + 1, nI c - (x.2.2.1 + 1) + 1, x.2.2.1 + 1, x.2.2.2 + σ 117 c))
def mre (σ : St) (n : Nat) : Int32 × Int32 × Int32 × Int32 := it (mreB σ) (0, -1, 0, 0) n
theorem mre_1 {σ : St} {i : Nat} (h : σ 117 i ≤ 0) (h2 : 0 ≤ (mre σ i).1) : mre σ (i + 1) = ((mre σ i).1, (mre σ i).2.1, 0, (mre σ i).2.2.2 + σ 117 i) := by
  show mreB σ i (mre σ i) = _; unfold mreB; rw [if_pos h, if_pos h2]
theorem mre_2 {σ : St} {i : Nat} (h : σ 117 i ≤ 0) (h2 : ¬ 0 ≤ (mre σ i).1) : mre σ (i + 1) = (0, nI i - 0 + 1, 0, (mre σ i).2.2.2 + σ 117 i) := by
  show mreB σ i (mre σ i) = _; unfold mreB; rw [if_pos h, if_neg h2]
theorem mre_3 {σ : St} {i : Nat} (h : ¬ σ 117 i ≤ 0) (h2 : (mre σ i).2.2.1 + 1 ≤ (mre σ i).1) : mre σ (i + 1) = ((mre σ i).1, (mre σ i).2.1, (mre σ i).2.2.1 + 1, (mre σ i).2.2.2 + σ 117 i) := by
  show mreB σ i (mre σ i) = _; unfold mreB; rw [if_neg h, if_pos h2]
theorem mre_4 {σ : St} {i : Nat} (h : ¬ σ 117 i ≤ 0) (h2 : ¬ (mre σ i).2.2.1 + 1 ≤ (mre σ i).1) : mre σ (i + 1) = ((mre σ i).2.2.1 + 1, nI i - ((mre σ i).2.2.1 + 1) + 1, (mre σ i).2.2.1 + 1, (mre σ i).2.2.2 + σ 117 i) := by
  show mreB σ i (mre σ i) = _; unfold mreB; rw [if_neg h, if_neg h2]
def mrs (σ : St) (w : Int32) : Int32 := if w = 0 then (mre σ (tl σ 0)).1 else if w = 1 then (mre σ (tl σ 0)).2.1 else (mre σ (tl σ 0)).2.2.2
/-! Euclid -/
def gcl : Nat → Int64 → Int64 → Int64
  | 0, x, _ => x
  | n + 1, x, y => if y = 0 then x else gcl n y (x - x / y * y)
def mwU (a p : Int32) (l n : Nat) : Int64 := a.toInt64 * mlb p l n
def mwL (a p q : Int32) (l n : Nat) : Int64 := mwU a p l n + (16 - a).toInt64 * mlb q l n
def mwi (a p q : Int32) (l n : Nat) (part : Int32) : Int64 := if mwU a p l n = 0 then part.toInt64 else if part = 0 then mwU a p l n / gcl (mwU a p l n).toInt.toNat.succ (mwL a p q l n) (mwU a p l n) else mwL a p q l n / gcl (mwU a p l n).toInt.toNat.succ (mwL a p q l n) (mwU a p l n)
theorem znW {a b : Nat} (h : nI a = OfNat.ofNat b) (ha : a < 100000 := by omega) (hb : b < 100000 := by decide) : a = b := by
  have h2 : nI a = nI b := h
  rwa [znI_eq ha hb] at h2
theorem znN {a b : Nat} (h : ¬ nI a = OfNat.ofNat b) (ha : a < 100000 := by omega) (hb : b < 100000 := by decide) : a ≠ b := by
  have h2 : ¬ nI a = nI b := h
  rwa [znI_eq ha hb] at h2
theorem n19_go {i : Nat} (hi : i ≤ 8) (h : ¬ 9 ≤ nI (i + 1)) : i < 8 := by
  have h2 : ¬ nI 9 ≤ nI (i + 1) := h
  rw [znI_le (by omega) (by omega)] at h2; omega
theorem n19_end {i : Nat} (hi : i ≤ 8) (h : 9 ≤ nI (i + 1)) : 8 = i := by
  have h2 : nI 9 ≤ nI (i + 1) := h
  rw [znI_le (by omega) (by omega)] at h2; omega
theorem fln_at {p : Int32} {n : Nat} {v : Int32} (h : fl0 v p) : fln p n v = v := by
  cases n with
  | zero => rfl
  | succ n => rw [fln, if_pos h]
theorem fln_go {p m v : Int32} {n : Nat} (hz : fln p n v = fln p 9 m) (hq : fl0 (fln p 9 m) p) (h : ¬ fl0 v p) : fln p (n - 1) (v + 1) = fln p n v ∧ 0 < n := by
  cases n with
  | zero => rw [← hz] at hq; exact absurd hq h
  | succ n => exact ⟨by rw [fln, if_neg h]; rfl, by omega⟩
theorem al_O {p q : Prop} [Decidable p] [Decidable q] (h : ¬ b2 p = b2 q) : ¬ (p ↔ q) := by rwa [b2_eqb] at h
theorem al_N {p q : Prop} [Decidable p] [Decidable q] (h : b2 p = b2 q) : ¬ ¬ (p ↔ q) := fun z => z (by rwa [b2_eqb] at h)
theorem z01 {w : Int32} (h : 0 ≤ w ∧ w ≤ 1) : zin w 2 w.toInt.toNat := by
  have h1 := h.1; have h2 := h.2
  rw [i_le] at h1 h2
  have : (0 : Int32).toInt = 0 := rfl
  have : (1 : Int32).toInt = 1 := rfl
  exact zin_of (by omega) (by omega)

set_option maxRecDepth 20000 in
set_option maxHeartbeats 4000000 in
theorem c_Mo_isNo1 {l : Launch} {G : Gz} (hG : zI G) (σ : St) (kd : Nat) (k9 : Int32) (hk : kd < 6) (h : ¬ k9 < 0 ∧ k9 < σ 115 kd) : MI l G y_Mo_isNo prog_14_method_63_code 3 .boolean 2 [.ref (G.1 111), .int (nI kd), .int k9] σ 0 σ := by
  refine MI.of hG (by decide) (Nat.le_of_ble_eq_true rfl) (fun X hx hq => ?_)
  show J l G X 3 σ 0 [(0, .ref (G.1 111)), (1, .int (nI kd)), (2, .int k9)] []
  refine j_iload_n hx d_Mo_isNo_0 rfl 2 rfl ?_
  refine j_iconst (v := 0) hx d_Mo_isNo_1 (by decide) ?_
  refine j_aload_n hx d_Mo_isNo_2 rfl 0 rfl ?_
  refine j_get hx ck_Mo 12 (by decide) t_1430 (by decide) (sh_111 _ _) rfl d_Mo_isNo_3 ?_
  refine j_iload_n hx d_Mo_isNo_6 rfl 1 rfl ?_
  have hz7_1 : zin (nI kd) 6 kd := by first | exact ⟨rfl, by decide⟩ | exact zin_nI (by omega) (by decide) | exact zin_of (by omega) (by omega)
  refine j_ialdk hx ia_115 hz7_1 d_Mo_isNo_7 ?_
  refine j_iconst (v := 1) hx d_Mo_isNo_8 (by decide) ?_
  refine j_isub hx d_Mo_isNo_9 ?_
  refine j_callSi hx (c_Mo_in1 hG σ k9 0 ((σ 115 kd) - 1) (by exact nob h)) mo_Mo_in t_1582 t_1581 (by decide) rfl rfl (Nat.le_of_ble_eq_true rfl) d_Mo_isNo_10 ?_
  refine j_if_ne (tgt := 20) hx d_Mo_isNo_13 (by decide) (fun _ => ?_) (fun zc13 => absurd zc13 (by decide))
  refine j_iconst (v := 0) hx d_Mo_isNo_20 (by decide) ?_
  exact j_iret hx hq rfl d_Mo_isNo_21 (by first | (rfl) | fail) (by first | (first | rfl | (simp only []; done) | (simp []; done)) | fail)

set_option maxRecDepth 20000 in
set_option maxHeartbeats 4000000 in
theorem c_Mo_isNo0 {l : Launch} {G : Gz} (hG : zI G) (σ : St) (kd : Nat) (k9 : Int32) (hk : kd < 6) (hT : 0 ≤ (σ 115 kd).toInt) (h : ¬ (¬ k9 < 0 ∧ k9 < σ 115 kd)) : MI l G y_Mo_isNo prog_14_method_63_code 3 .boolean 2 [.ref (G.1 111), .int (nI kd), .int k9] σ 1 σ := by
  refine MI.of hG (by decide) (Nat.le_of_ble_eq_true rfl) (fun X hx hq => ?_)
  show J l G X 3 σ 0 [(0, .ref (G.1 111)), (1, .int (nI kd)), (2, .int k9)] []
  refine j_iload_n hx d_Mo_isNo_0 rfl 2 rfl ?_
  refine j_iconst (v := 0) hx d_Mo_isNo_1 (by decide) ?_
  refine j_aload_n hx d_Mo_isNo_2 rfl 0 rfl ?_
  refine j_get hx ck_Mo 12 (by decide) t_1430 (by decide) (sh_111 _ _) rfl d_Mo_isNo_3 ?_
  refine j_iload_n hx d_Mo_isNo_6 rfl 1 rfl ?_
  have hz7_1 : zin (nI kd) 6 kd := by first | exact ⟨rfl, by decide⟩ | exact zin_nI (by omega) (by decide) | exact zin_of (by omega) (by omega)
  refine j_ialdk hx ia_115 hz7_1 d_Mo_isNo_7 ?_
  refine j_iconst (v := 1) hx d_Mo_isNo_8 (by decide) ?_
  refine j_isub hx d_Mo_isNo_9 ?_
  refine j_callSi hx (c_Mo_in0 hG σ k9 0 ((σ 115 kd) - 1) (by exact nob' hT h)) mo_Mo_in t_1582 t_1581 (by decide) rfl rfl (Nat.le_of_ble_eq_true rfl) d_Mo_isNo_10 ?_
  refine j_if_ne (tgt := 20) hx d_Mo_isNo_13 (by decide) (fun zc13 => absurd rfl zc13) (fun _ => ?_)
  refine j_iconst (v := 1) hx d_Mo_isNo_16 (by decide) ?_
  refine j_goto (tgt := 21) hx d_Mo_isNo_17 (by decide) ?_
  exact j_iret hx hq rfl d_Mo_isNo_21 (by first | (rfl) | fail) (by first | (first | rfl | (simp only []; done) | (simp []; done)) | fail)

set_option maxRecDepth 20000 in
set_option maxHeartbeats 4000000 in
theorem c_Mo_told {l : Launch} {G : Gz} (hG : zI G) (σ : St) (w : Nat) (hw9 : w < 13) (hv10 : 0 ≤ nI w ∧ nI w ≤ 12) : MI l G y_Mo_told prog_14_method_62_code 2 .int 9 [.ref (G.1 111), .int (nI w)] σ (mtd (up σ 111 0 0) w) (t0 σ) := by
  refine MI.of hG (by decide) (Nat.le_of_ble_eq_true rfl) (fun X hx hq => ?_)
  show J l G X 2 σ 0 [(0, .ref (G.1 111)), (1, .int (nI w))] []
  refine j_aload_n hx d_Mo_told_0 rfl 0 rfl ?_
  refine j_iconst (v := 0) hx d_Mo_told_1 (by decide) ?_
  refine j_put hx ck_Mo 0 (by decide) t_1418 (by decide) (sh_111 _ _) rfl (Nat.le_of_ble_eq_true rfl) (sh_111 _ _) d_Mo_told_2 ?_
  refine j_aload_n hx d_Mo_told_5 rfl 0 rfl ?_
  refine j_iload_n hx d_Mo_told_6 rfl 1 rfl ?_
  refine j_iconst (v := 0) hx d_Mo_told_7 (by decide) ?_
  refine j_bipush (v := 12) hx d_Mo_told_8 (by decide) ?_
  refine j_callSi hx (c_Mo_in1 hG (up σ 111 0 0) (nI w) 0 12 (by exact hv10)) mo_Mo_in t_1582 t_1581 (by decide) rfl rfl (Nat.le_of_ble_eq_true rfl) d_Mo_told_10 ?_
  refine j_if_ne (tgt := 20) hx d_Mo_told_13 (by decide) (fun _ => ?_) (fun zc13 => absurd zc13 (by decide))
  refine j_iconst (v := 0) hx d_Mo_told_20 (by decide) ?_
  refine j_iconst (v := 1) hx d_Mo_told_21 (by decide) ?_
  refine j_iconst (v := 1) hx d_Mo_told_22 (by decide) ?_
  refine j_callVi hx (c_Mo_bad0 hG (up σ 111 0 0) 0 1 1 (by rfl) (by exact up_rd)) mo_Mo_bad mv_Mo_bad t_1584 (by decide) rfl (by decide) (sh_111 _ _) rfl rfl (Nat.le_of_ble_eq_true rfl) d_Mo_told_23 ?_
  refine j_if_eq (tgt := 31) hx d_Mo_told_26 (by decide) (fun _ => ?_) (fun zc26 => absurd (by decide) zc26)
  refine j_iload_n hx d_Mo_told_31 rfl 1 rfl ?_
  refine J.sw (x := nI w) 5 (fun zc32_0 => ?_) (fun zc32_0 => ?_)
  · skip
    refine j_tableIn (x := nI w) (tgt := 80) (off := 48) hx d_Mo_told_32 (by rw [zc32_0]; decide) (by rw [zc32_0]; decide) (by rw [zc32_0]; decide) (by decide) ?_
    refine j_aload_n hx d_Mo_told_80 rfl 0 rfl ?_
    refine j_get hx ck_Mo 33 (by decide) t_1451 (by decide) (sh_111 _ _) rfl d_Mo_told_81 ?_
    refine j_bipush (v := 27) hx d_Mo_told_84 (by decide) ?_
    have hz86_1 : zin (27) 31 27 := by first | exact ⟨rfl, by decide⟩ | exact zin_nI (by omega) (by decide) | exact zin_of (by omega) (by omega)
    refine j_ialdk hx ia_122 hz86_1 d_Mo_told_86 ?_
    exact j_iret hx hq rfl d_Mo_told_87 (by first | (have e9 := znW (b := 5) zc32_0; subst e9; rfl) | fail) (by first | (rfl) | fail)
  refine J.sw (x := nI w) 6 (fun zc32_1 => ?_) (fun zc32_1 => ?_)
  · skip
    refine j_tableIn (x := nI w) (tgt := 88) (off := 56) hx d_Mo_told_32 (by rw [zc32_1]; decide) (by rw [zc32_1]; decide) (by rw [zc32_1]; decide) (by decide) ?_
    refine j_aload_n hx d_Mo_told_88 rfl 0 rfl ?_
    refine j_get hx ck_Mo 33 (by decide) t_1451 (by decide) (sh_111 _ _) rfl d_Mo_told_89 ?_
    refine j_bipush (v := 28) hx d_Mo_told_92 (by decide) ?_
    have hz94_2 : zin (28) 31 28 := by first | exact ⟨rfl, by decide⟩ | exact zin_nI (by omega) (by decide) | exact zin_of (by omega) (by omega)
    refine j_ialdk hx ia_122 hz94_2 d_Mo_told_94 ?_
    exact j_iret hx hq rfl d_Mo_told_95 (by first | (have e9 := znW (b := 6) zc32_1; subst e9; rfl) | fail) (by first | (rfl) | fail)
  refine J.sw (x := nI w) 7 (fun zc32_2 => ?_) (fun zc32_2 => ?_)
  · skip
    refine j_tableIn (x := nI w) (tgt := 96) (off := 64) hx d_Mo_told_32 (by rw [zc32_2]; decide) (by rw [zc32_2]; decide) (by rw [zc32_2]; decide) (by decide) ?_
    refine j_aload_n hx d_Mo_told_96 rfl 0 rfl ?_
    refine j_get hx ck_Mo 33 (by decide) t_1451 (by decide) (sh_111 _ _) rfl d_Mo_told_97 ?_
    refine j_bipush (v := 23) hx d_Mo_told_100 (by decide) ?_
    have hz102_3 : zin (23) 31 23 := by first | exact ⟨rfl, by decide⟩ | exact zin_nI (by omega) (by decide) | exact zin_of (by omega) (by omega)
    refine j_ialdk hx ia_122 hz102_3 d_Mo_told_102 ?_
    exact j_iret hx hq rfl d_Mo_told_103 (by first | (have e9 := znW (b := 7) zc32_2; subst e9; rfl) | fail) (by first | (rfl) | fail)
  refine J.sw (x := nI w) 8 (fun zc32_3 => ?_) (fun zc32_3 => ?_)
  · skip
    refine j_tableIn (x := nI w) (tgt := 104) (off := 72) hx d_Mo_told_32 (by rw [zc32_3]; decide) (by rw [zc32_3]; decide) (by rw [zc32_3]; decide) (by decide) ?_
    refine j_aload_n hx d_Mo_told_104 rfl 0 rfl ?_
    refine j_get hx ck_Mo 33 (by decide) t_1451 (by decide) (sh_111 _ _) rfl d_Mo_told_105 ?_
    refine j_bipush (v := 24) hx d_Mo_told_108 (by decide) ?_
    have hz110_4 : zin (24) 31 24 := by first | exact ⟨rfl, by decide⟩ | exact zin_nI (by omega) (by decide) | exact zin_of (by omega) (by omega)
    refine j_ialdk hx ia_122 hz110_4 d_Mo_told_110 ?_
    exact j_iret hx hq rfl d_Mo_told_111 (by first | (have e9 := znW (b := 8) zc32_3; subst e9; rfl) | fail) (by first | (rfl) | fail)
  refine J.sw (x := nI w) 9 (fun zc32_4 => ?_) (fun zc32_4 => ?_)
  · skip
    refine j_tableIn (x := nI w) (tgt := 112) (off := 80) hx d_Mo_told_32 (by rw [zc32_4]; decide) (by rw [zc32_4]; decide) (by rw [zc32_4]; decide) (by decide) ?_
    refine j_aload_n hx d_Mo_told_112 rfl 0 rfl ?_
    refine j_get hx ck_Mo 33 (by decide) t_1451 (by decide) (sh_111 _ _) rfl d_Mo_told_113 ?_
    refine j_bipush (v := 25) hx d_Mo_told_116 (by decide) ?_
    have hz118_5 : zin (25) 31 25 := by first | exact ⟨rfl, by decide⟩ | exact zin_nI (by omega) (by decide) | exact zin_of (by omega) (by omega)
    refine j_ialdk hx ia_122 hz118_5 d_Mo_told_118 ?_
    exact j_iret hx hq rfl d_Mo_told_119 (by first | (have e9 := znW (b := 9) zc32_4; subst e9; rfl) | fail) (by first | (rfl) | fail)
  refine J.sw (x := nI w) 10 (fun zc32_5 => ?_) (fun zc32_5 => ?_)
  · skip
    refine j_tableIn (x := nI w) (tgt := 120) (off := 88) hx d_Mo_told_32 (by rw [zc32_5]; decide) (by rw [zc32_5]; decide) (by rw [zc32_5]; decide) (by decide) ?_
    refine j_aload_n hx d_Mo_told_120 rfl 0 rfl ?_
    refine j_get hx ck_Mo 33 (by decide) t_1451 (by decide) (sh_111 _ _) rfl d_Mo_told_121 ?_
    refine j_bipush (v := 26) hx d_Mo_told_124 (by decide) ?_
    have hz126_6 : zin (26) 31 26 := by first | exact ⟨rfl, by decide⟩ | exact zin_nI (by omega) (by decide) | exact zin_of (by omega) (by omega)
    refine j_ialdk hx ia_122 hz126_6 d_Mo_told_126 ?_
    exact j_iret hx hq rfl d_Mo_told_127 (by first | (have e9 := znW (b := 10) zc32_5; subst e9; rfl) | fail) (by first | (rfl) | fail)
  refine J.sw (x := nI w) 11 (fun zc32_6 => ?_) (fun zc32_6 => ?_)
  · skip
    refine j_tableIn (x := nI w) (tgt := 128) (off := 96) hx d_Mo_told_32 (by rw [zc32_6]; decide) (by rw [zc32_6]; decide) (by rw [zc32_6]; decide) (by decide) ?_
    refine j_aload_n hx d_Mo_told_128 rfl 0 rfl ?_
    refine j_get hx ck_Mo 37 (by decide) t_1455 (by decide) (sh_111 _ _) rfl d_Mo_told_129 ?_
    exact j_iret hx hq rfl d_Mo_told_132 (by first | (have e9 := znW (b := 11) zc32_6; subst e9; rfl) | fail) (by first | (rfl) | fail)
  refine J.sw (x := nI w) 12 (fun zc32_7 => ?_) (fun zc32_7 => ?_)
  · skip
    refine j_tableIn (x := nI w) (tgt := 133) (off := 101) hx d_Mo_told_32 (by rw [zc32_7]; decide) (by rw [zc32_7]; decide) (by rw [zc32_7]; decide) (by decide) ?_
    refine j_aload_n hx d_Mo_told_133 rfl 0 rfl ?_
    refine j_get hx ck_Mo 39 (by decide) t_1457 (by decide) (sh_111 _ _) rfl d_Mo_told_134 ?_
    exact j_iret hx hq rfl d_Mo_told_137 (by first | (have e9 := znW (b := 12) zc32_7; subst e9; rfl) | fail) (by first | (rfl) | fail)
  refine j_tableOut (x := nI w) (tgt := 138) hx d_Mo_told_32 (by have h0 := sw_ne zc32_0; have h1 := sw_ne zc32_1; have h2 := sw_ne zc32_2; have h3 := sw_ne zc32_3; have h4 := sw_ne zc32_4; have h5 := sw_ne zc32_5; have h6 := sw_ne zc32_6; have h7 := sw_ne zc32_7; have q5 : Int32.toInt 5 = 5 := rfl; have q6 : Int32.toInt 6 = 6 := rfl; have q7 : Int32.toInt 7 = 7 := rfl; have q8 : Int32.toInt 8 = 8 := rfl; have q9 : Int32.toInt 9 = 9 := rfl; have q10 : Int32.toInt 10 = 10 := rfl; have q11 : Int32.toInt 11 = 11 := rfl; have q12 : Int32.toInt 12 = 12 := rfl; omega) (by decide) ?_
  refine j_aload_n hx d_Mo_told_138 rfl 0 rfl ?_
  refine j_get hx ck_Mo 12 (by decide) t_1430 (by decide) (sh_111 _ _) rfl d_Mo_told_139 ?_
  refine j_iload_n hx d_Mo_told_142 rfl 1 rfl ?_
  have hz143_7 : zin (nI w) 6 w := by exact zin_nI (by have := znN (b := 5) zc32_0; have := znN (b := 6) zc32_1; have := znN (b := 7) zc32_2; have := znN (b := 8) zc32_3; have := znN (b := 9) zc32_4; have := znN (b := 10) zc32_5; have := znN (b := 11) zc32_6; have := znN (b := 12) zc32_7; omega) (by decide)
  refine j_ialdk hx ia_115 hz143_7 d_Mo_told_143 ?_
  exact j_iret hx hq rfl d_Mo_told_144 (by first | (unfold mtd; rw [if_pos (show w < 5 by have := znN (b := 5) zc32_0; have := znN (b := 6) zc32_1; have := znN (b := 7) zc32_2; have := znN (b := 8) zc32_3; have := znN (b := 9) zc32_4; have := znN (b := 10) zc32_5; have := znN (b := 11) zc32_6; have := znN (b := 12) zc32_7; omega)]) | fail) (by first | (rfl) | fail)

set_option maxRecDepth 20000 in
set_option maxHeartbeats 4000000 in
theorem c_Mo_toldI {l : Launch} {G : Gz} (hG : zI G) (σ : St) (w : Int32) (hbad : ¬ (0 ≤ w ∧ w ≤ 12)) : MI l G y_Mo_told prog_14_method_62_code 2 .int 4 [.ref (G.1 111), .int w] σ 0 (mrf σ 1 1) := by
  refine MI.of hG (by decide) (Nat.le_of_ble_eq_true rfl) (fun X hx hq => ?_)
  show J l G X 2 σ 0 [(0, .ref (G.1 111)), (1, .int w)] []
  refine j_aload_n hx d_Mo_told_0 rfl 0 rfl ?_
  refine j_iconst (v := 0) hx d_Mo_told_1 (by decide) ?_
  refine j_put hx ck_Mo 0 (by decide) t_1418 (by decide) (sh_111 _ _) rfl (Nat.le_of_ble_eq_true rfl) (sh_111 _ _) d_Mo_told_2 ?_
  refine j_aload_n hx d_Mo_told_5 rfl 0 rfl ?_
  refine j_iload_n hx d_Mo_told_6 rfl 1 rfl ?_
  refine j_iconst (v := 0) hx d_Mo_told_7 (by decide) ?_
  refine j_bipush (v := 12) hx d_Mo_told_8 (by decide) ?_
  refine j_callSi hx (c_Mo_in0 hG (up σ 111 0 0) w 0 12 (by exact hbad)) mo_Mo_in t_1582 t_1581 (by decide) rfl rfl (Nat.le_of_ble_eq_true rfl) d_Mo_told_10 ?_
  refine j_if_ne (tgt := 20) hx d_Mo_told_13 (by decide) (fun zc13 => absurd rfl zc13) (fun _ => ?_)
  refine j_iconst (v := 1) hx d_Mo_told_16 (by decide) ?_
  refine j_goto (tgt := 21) hx d_Mo_told_17 (by decide) ?_
  refine j_iconst (v := 1) hx d_Mo_told_21 (by decide) ?_
  refine j_iconst (v := 1) hx d_Mo_told_22 (by decide) ?_
  refine j_callVi hx (c_Mo_bad1 hG (up σ 111 0 0) 1 1 1 (by decide) (by exact up_rd) (by decide) (by decide)) mo_Mo_bad mv_Mo_bad t_1584 (by decide) rfl (by decide) (sh_111 _ _) rfl rfl (Nat.le_of_ble_eq_true rfl) d_Mo_told_23 ?_
  refine j_if_eq (tgt := 31) hx d_Mo_told_26 (by decide) (fun zc26 => absurd zc26 (by decide)) (fun _ => ?_)
  refine j_iconst (v := 0) hx d_Mo_told_29 (by decide) ?_
  exact j_iret hx hq rfl d_Mo_told_30 (by first | (rfl) | fail) (by first | (rfl) | fail)

set_option maxRecDepth 20000 in
set_option maxHeartbeats 4000000 in
theorem c_Mo_cell {l : Launch} {G : Gz} (hG : zI G) (σ : St) (c : Nat) (w : Int32) (hw : mW (up σ 111 0 0)) (hc9 : c < ct ((up σ 111 0 0) 115 0)) (hv24 : 0 ≤ w ∧ w ≤ 3) : MI l G y_Mo_cell prog_14_method_64_code 5 .int 9 [.ref (G.1 111), .int (nI c), .int w] σ (mce (up σ 111 0 0) c w) (t0 σ) := by
  refine MI.of hG (by decide) (Nat.le_of_ble_eq_true rfl) (fun X hx hq => ?_)
  show J l G X 5 σ 0 [(0, .ref (G.1 111)), (1, .int (nI c)), (2, .int w)] []
  have hb1 : ct ((up σ 111 0 0) 115 1) ≤ 6 := hw.1.2.1
  have hb2 : ct ((up σ 111 0 0) 115 2) ≤ 3 := hw.1.2.2.1
  have hb0 : ct ((up σ 111 0 0) 115 0) ≤ 12 := hw.1.1
  have hb3 : ct ((up σ 111 0 0) 115 3) ≤ 6 := hw.1.2.2.2.1
  have hb4 : ct ((up σ 111 0 0) 115 4) ≤ 6 := hw.1.2.2.2.2
  refine j_aload_n hx d_Mo_cell_0 rfl 0 rfl ?_
  refine j_iconst (v := 0) hx d_Mo_cell_1 (by decide) ?_
  refine j_put hx ck_Mo 0 (by decide) t_1418 (by decide) (sh_111 _ _) rfl (Nat.le_of_ble_eq_true rfl) (sh_111 _ _) d_Mo_cell_2 ?_
  refine j_aload_n hx d_Mo_cell_5 rfl 0 rfl ?_
  refine j_aload_n hx d_Mo_cell_6 rfl 0 rfl ?_
  refine j_iconst (v := 0) hx d_Mo_cell_7 (by decide) ?_
  refine j_iload_n hx d_Mo_cell_8 rfl 1 rfl ?_
  refine j_callVi hx (c_Mo_isNo1 hG (up σ 111 0 0) 0 (nI c) (by decide) (by exact vkz hc9)) mo_Mo_isNo mv_Mo_isNo t_1789 (by decide) rfl (by decide) (sh_111 _ _) rfl rfl (Nat.le_of_ble_eq_true rfl) d_Mo_cell_9 ?_
  refine j_iconst (v := 1) hx d_Mo_cell_12 (by decide) ?_
  refine j_iconst (v := 0) hx d_Mo_cell_13 (by decide) ?_
  refine j_callVi hx (c_Mo_bad0 hG (up σ 111 0 0) 0 1 0 (by rfl) (by exact up_rd)) mo_Mo_bad mv_Mo_bad t_1584 (by decide) rfl (by decide) (sh_111 _ _) rfl rfl (Nat.le_of_ble_eq_true rfl) d_Mo_cell_14 ?_
  refine j_if_ne (tgt := 43) hx d_Mo_cell_17 (by decide) (fun zc17 => absurd rfl zc17) (fun _ => ?_)
  refine j_aload_n hx d_Mo_cell_20 rfl 0 rfl ?_
  refine j_iload_n hx d_Mo_cell_21 rfl 2 rfl ?_
  refine j_iconst (v := 0) hx d_Mo_cell_22 (by decide) ?_
  refine j_iconst (v := 3) hx d_Mo_cell_23 (by decide) ?_
  refine j_callSi hx (c_Mo_in1 hG (up σ 111 0 0) w 0 3 (by exact hv24)) mo_Mo_in t_1582 t_1581 (by decide) rfl rfl (Nat.le_of_ble_eq_true rfl) d_Mo_cell_24 ?_
  refine j_if_ne (tgt := 34) hx d_Mo_cell_27 (by decide) (fun _ => ?_) (fun zc27 => absurd zc27 (by decide))
  refine j_iconst (v := 0) hx d_Mo_cell_34 (by decide) ?_
  refine j_iconst (v := 2) hx d_Mo_cell_35 (by decide) ?_
  refine j_iconst (v := 1) hx d_Mo_cell_36 (by decide) ?_
  refine j_callVi hx (c_Mo_bad0 hG (up σ 111 0 0) 0 2 1 (by rfl) (by exact up_rd)) mo_Mo_bad mv_Mo_bad t_1584 (by decide) rfl (by decide) (sh_111 _ _) rfl rfl (Nat.le_of_ble_eq_true rfl) d_Mo_cell_37 ?_
  refine j_if_eq (tgt := 45) hx d_Mo_cell_40 (by decide) (fun _ => ?_) (fun zc40 => absurd (by decide) zc40)
  refine j_iconst (v := 0) hx d_Mo_cell_45 (by decide) ?_
  refine j_istore_n hx [(3, .int 0), (0, .ref (G.1 111)), (1, .int (nI c)), (2, .int w)] d_Mo_cell_46 rfl (by decide) rfl ?_
  refine j_iconst (v := 0) hx d_Mo_cell_47 (by decide) ?_
  refine j_istore hx [(4, .int 0), (3, .int 0), (0, .ref (G.1 111)), (1, .int (nI c)), (2, .int w)] d_Mo_cell_48 (by decide) rfl ?_
  have hl50 : ∀ (N9 : Nat) (i : Nat), (i ≤ (ct ((up σ 111 0 0) 115 1))) → (ct ((up σ 111 0 0) 115 1)) - i = N9 → J l G X 5 (up σ 111 0 0) 50 [(0, .ref (G.1 111)), (1, .int (nI c)), (2, .int w), (3, .int (mcl (up σ 111 0 0) w c i)), (4, .int (nI i))] [] := by
    intro N9
    induction N9 using Nat.strongRecOn with
    | _ N9 ih50 =>
      intro i hi_i hm50
      refine j_iload hx d_Mo_cell_50 4 rfl ?_
      refine j_aload_n hx d_Mo_cell_52 rfl 0 rfl ?_
      refine j_get hx ck_Mo 12 (by decide) t_1430 (by decide) (sh_111 _ _) rfl d_Mo_cell_53 ?_
      refine j_iconst (v := 1) hx d_Mo_cell_56 (by decide) ?_
      have hz57_1 : zin (1) 6 1 := by first | exact ⟨rfl, by decide⟩ | exact zin_nI (by omega) (by decide) | exact zin_of (by omega) (by omega)
      refine j_ialdk hx ia_115 hz57_1 d_Mo_cell_57 ?_
      refine j_icmp_ge (tgt := 107) hx d_Mo_cell_58 (by decide) (fun zc58 => ?_) (fun zc58 => ?_)
      · skip
        obtain rfl := ct_end' hi_i zc58
        refine j_iconst (v := 0) hx d_Mo_cell_107 (by decide) ?_
        refine j_istore hx [(4, .int 0), (0, .ref (G.1 111)), (1, .int (nI c)), (2, .int w), (3, .int (mcl (up σ 111 0 0) w c (ct ((up σ 111 0 0) 115 1))))] d_Mo_cell_108 (by decide) rfl ?_
        have hl110 : ∀ (N9 : Nat) (j : Nat), (j ≤ (ct ((up σ 111 0 0) 115 2))) → (ct ((up σ 111 0 0) 115 2)) - j = N9 → J l G X 5 (up σ 111 0 0) 110 [(0, .ref (G.1 111)), (1, .int (nI c)), (2, .int w), (3, .int (mcd (up σ 111 0 0) w c j (mcl (up σ 111 0 0) w c (ct ((up σ 111 0 0) 115 1))))), (4, .int (nI j))] [] := by
          intro N9
          induction N9 using Nat.strongRecOn with
          | _ N9 ih110 =>
            intro j hi_j hm110
            refine j_iload hx d_Mo_cell_110 4 rfl ?_
            refine j_aload_n hx d_Mo_cell_112 rfl 0 rfl ?_
            refine j_get hx ck_Mo 12 (by decide) t_1430 (by decide) (sh_111 _ _) rfl d_Mo_cell_113 ?_
            refine j_iconst (v := 2) hx d_Mo_cell_116 (by decide) ?_
            have hz117_2 : zin (2) 6 2 := by first | exact ⟨rfl, by decide⟩ | exact zin_nI (by omega) (by decide) | exact zin_of (by omega) (by omega)
            refine j_ialdk hx ia_115 hz117_2 d_Mo_cell_117 ?_
            refine j_icmp_ge (tgt := 153) hx d_Mo_cell_118 (by decide) (fun zc118 => ?_) (fun zc118 => ?_)
            · skip
              obtain rfl := ct_end' hi_j zc118
              refine j_iload_n hx d_Mo_cell_153 rfl 2 rfl ?_
              refine j_if_ne (tgt := 166) hx d_Mo_cell_154 (by decide) (fun zc154 => ?_) (fun zc154 => ?_)
              · skip
                refine j_iload_n hx d_Mo_cell_166 rfl 2 rfl ?_
                refine j_iconst (v := 3) hx d_Mo_cell_167 (by decide) ?_
                refine j_icmp_ne (tgt := 183) hx d_Mo_cell_168 (by decide) (fun zc168 => ?_) (fun zc168 => ?_)
                · skip
                  refine j_iload_n hx d_Mo_cell_183 rfl 3 rfl ?_
                  exact j_iret hx hq rfl d_Mo_cell_184 (by first | (unfold mce; first | exact (if_pos zc154).symm | (rw [if_neg zc154]; first | exact (if_pos zc168).symm | exact (if_neg zc168).symm)) | fail) (by first | (rfl) | fail)
                · skip
                  refine j_aload_n hx d_Mo_cell_171 rfl 0 rfl ?_
                  refine j_get hx ck_Mo 33 (by decide) t_1451 (by decide) (sh_111 _ _) rfl d_Mo_cell_172 ?_
                  refine j_bipush (v := 11) hx d_Mo_cell_175 (by decide) ?_
                  refine j_iload_n hx d_Mo_cell_177 rfl 1 rfl ?_
                  refine j_iadd hx d_Mo_cell_178 ?_
                  have hz179_3 : zin (11 + (nI c)) 31 ((11 + c)) := by first | exact ⟨rfl, by decide⟩ | exact zin_nI (by omega) (by decide) | exact zin_add (c := 11) (by omega) (by decide) | exact zin_of (by omega) (by omega)
                  refine j_ialdk hx ia_122 hz179_3 d_Mo_cell_179 ?_
                  refine j_goto (tgt := 184) hx d_Mo_cell_180 (by decide) ?_
                  exact j_iret hx hq rfl d_Mo_cell_184 (by first | (unfold mce; first | exact (if_pos zc154).symm | (rw [if_neg zc154]; first | exact (if_pos zc168).symm | exact (if_neg zc168).symm)) | fail) (by first | (rfl) | fail)
              · skip
                refine j_aload_n hx d_Mo_cell_157 rfl 0 rfl ?_
                refine j_get hx ck_Mo 14 (by decide) t_1432 (by decide) (sh_111 _ _) rfl d_Mo_cell_158 ?_
                refine j_iload_n hx d_Mo_cell_161 rfl 1 rfl ?_
                have hz162_4 : zin (nI c) 12 c := by first | exact ⟨rfl, by decide⟩ | exact zin_nI (by omega) (by decide) | exact zin_of (by omega) (by omega)
                refine j_ialdk hx ia_117 hz162_4 d_Mo_cell_162 ?_
                refine j_goto (tgt := 184) hx d_Mo_cell_163 (by decide) ?_
                exact j_iret hx hq rfl d_Mo_cell_184 (by first | (unfold mce; first | exact (if_pos zc154).symm | (rw [if_neg zc154]; first | exact (if_pos zc168).symm | exact (if_neg zc168).symm)) | fail) (by first | (rfl) | fail)
            · skip
              have hlt110 := ct_go hi_j zc118
              refine j_iload_n hx d_Mo_cell_121 rfl 3 rfl ?_
              refine j_iload_n hx d_Mo_cell_122 rfl 2 rfl ?_
              refine j_iconst (v := 2) hx d_Mo_cell_123 (by decide) ?_
              refine j_icmp_ne (tgt := 144) hx d_Mo_cell_124 (by decide) (fun zc124 => ?_) (fun zc124 => ?_)
              · skip
                refine j_iconst (v := 0) hx d_Mo_cell_144 (by decide) ?_
                refine j_iadd hx d_Mo_cell_145 ?_
                refine j_istore_n hx [(3, .int ((mcd (up σ 111 0 0) w c j (mcl (up σ 111 0 0) w c (ct ((up σ 111 0 0) 115 1)))) + 0)), (0, .ref (G.1 111)), (1, .int (nI c)), (2, .int w), (4, .int (nI j))] d_Mo_cell_146 rfl (by decide) rfl ?_
                refine j_iinc hx [(4, .int ((nI j) + 1)), (3, .int ((mcd (up σ 111 0 0) w c j (mcl (up σ 111 0 0) w c (ct ((up σ 111 0 0) 115 1)))) + 0)), (0, .ref (G.1 111)), (1, .int (nI c)), (2, .int w)] d_Mo_cell_147 4 rfl rfl (by decide) rfl ?_
                refine j_goto (tgt := 110) hx d_Mo_cell_150 (by decide) ?_
                refine J.lsub (ls' := [(0, .ref (G.1 111)), (1, .int (nI c)), (2, .int w), (3, .int ((mcd (up σ 111 0 0) w c j (mcl (up σ 111 0 0) w c (ct ((up σ 111 0 0) 115 1)))) + 0)), (4, .int ((nI j) + 1))]) [2, 3, 4, 1, 0] rfl ?_
                refine J.to ?_ ?_ (ih110 _ ?_ (j + 1) hlt110 rfl)
                · first | (first | rfl | (simp [zc58, zc118, zc124]; done)) | fail
                · first | (simp only [nI_s, mcd_s]; first | rw [b2_t (p := w = 2 ∧ (up σ 111 0 0) 122 (1 + j) = nI c) ⟨zc124, zc137⟩] | rw [b2_f (p := w = 2 ∧ (up σ 111 0 0) 122 (1 + j) = nI c) (fun z => zc124 z.1)] | rw [b2_f (p := w = 2 ∧ (up σ 111 0 0) 122 (1 + j) = nI c) (fun z => zc137 z.2)]) | fail
                · first | (omega) | fail
              · skip
                refine j_aload_n hx d_Mo_cell_127 rfl 0 rfl ?_
                refine j_get hx ck_Mo 33 (by decide) t_1451 (by decide) (sh_111 _ _) rfl d_Mo_cell_128 ?_
                refine j_iconst (v := 1) hx d_Mo_cell_131 (by decide) ?_
                refine j_iload hx d_Mo_cell_132 4 rfl ?_
                refine j_iadd hx d_Mo_cell_134 ?_
                have hz135_5 : zin (1 + (nI j)) 31 ((1 + j)) := by first | exact ⟨rfl, by decide⟩ | exact zin_nI (by omega) (by decide) | exact zin_add (c := 1) (by omega) (by decide) | exact zin_of (by omega) (by omega)
                refine j_ialdk hx ia_122 hz135_5 d_Mo_cell_135 ?_
                refine j_iload_n hx d_Mo_cell_136 rfl 1 rfl ?_
                refine j_icmp_ne (tgt := 144) hx d_Mo_cell_137 (by decide) (fun zc137 => ?_) (fun zc137 => ?_)
                · skip
                  refine j_iconst (v := 0) hx d_Mo_cell_144 (by decide) ?_
                  refine j_iadd hx d_Mo_cell_145 ?_
                  refine j_istore_n hx [(3, .int ((mcd (up σ 111 0 0) w c j (mcl (up σ 111 0 0) w c (ct ((up σ 111 0 0) 115 1)))) + 0)), (0, .ref (G.1 111)), (1, .int (nI c)), (2, .int w), (4, .int (nI j))] d_Mo_cell_146 rfl (by decide) rfl ?_
                  refine j_iinc hx [(4, .int ((nI j) + 1)), (3, .int ((mcd (up σ 111 0 0) w c j (mcl (up σ 111 0 0) w c (ct ((up σ 111 0 0) 115 1)))) + 0)), (0, .ref (G.1 111)), (1, .int (nI c)), (2, .int w)] d_Mo_cell_147 4 rfl rfl (by decide) rfl ?_
                  refine j_goto (tgt := 110) hx d_Mo_cell_150 (by decide) ?_
                  refine J.lsub (ls' := [(0, .ref (G.1 111)), (1, .int (nI c)), (2, .int w), (3, .int ((mcd (up σ 111 0 0) w c j (mcl (up σ 111 0 0) w c (ct ((up σ 111 0 0) 115 1)))) + 0)), (4, .int ((nI j) + 1))]) [2, 3, 4, 1, 0] rfl ?_
                  refine J.to ?_ ?_ (ih110 _ ?_ (j + 1) hlt110 rfl)
                  · first | (first | rfl | (simp [zc58, zc118, zc124, zc137]; done)) | fail
                  · first | (simp only [nI_s, mcd_s]; first | rw [b2_t (p := w = 2 ∧ (up σ 111 0 0) 122 (1 + j) = nI c) ⟨zc124, zc137⟩] | rw [b2_f (p := w = 2 ∧ (up σ 111 0 0) 122 (1 + j) = nI c) (fun z => zc124 z.1)] | rw [b2_f (p := w = 2 ∧ (up σ 111 0 0) 122 (1 + j) = nI c) (fun z => zc137 z.2)]) | fail
                  · first | (omega) | fail
                · skip
                  refine j_iconst (v := 1) hx d_Mo_cell_140 (by decide) ?_
                  refine j_goto (tgt := 145) hx d_Mo_cell_141 (by decide) ?_
                  refine j_iadd hx d_Mo_cell_145 ?_
                  refine j_istore_n hx [(3, .int ((mcd (up σ 111 0 0) w c j (mcl (up σ 111 0 0) w c (ct ((up σ 111 0 0) 115 1)))) + 1)), (0, .ref (G.1 111)), (1, .int (nI c)), (2, .int w), (4, .int (nI j))] d_Mo_cell_146 rfl (by decide) rfl ?_
                  refine j_iinc hx [(4, .int ((nI j) + 1)), (3, .int ((mcd (up σ 111 0 0) w c j (mcl (up σ 111 0 0) w c (ct ((up σ 111 0 0) 115 1)))) + 1)), (0, .ref (G.1 111)), (1, .int (nI c)), (2, .int w)] d_Mo_cell_147 4 rfl rfl (by decide) rfl ?_
                  refine j_goto (tgt := 110) hx d_Mo_cell_150 (by decide) ?_
                  refine J.lsub (ls' := [(0, .ref (G.1 111)), (1, .int (nI c)), (2, .int w), (3, .int ((mcd (up σ 111 0 0) w c j (mcl (up σ 111 0 0) w c (ct ((up σ 111 0 0) 115 1)))) + 1)), (4, .int ((nI j) + 1))]) [2, 3, 4, 1, 0] rfl ?_
                  refine J.to ?_ ?_ (ih110 _ ?_ (j + 1) hlt110 rfl)
                  · first | (first | rfl | (simp [zc58, zc118, zc124, zc137]; done)) | fail
                  · first | (simp only [nI_s, mcd_s]; first | rw [b2_t (p := w = 2 ∧ (up σ 111 0 0) 122 (1 + j) = nI c) ⟨zc124, zc137⟩] | rw [b2_f (p := w = 2 ∧ (up σ 111 0 0) 122 (1 + j) = nI c) (fun z => zc124 z.1)] | rw [b2_f (p := w = 2 ∧ (up σ 111 0 0) 122 (1 + j) = nI c) (fun z => zc137 z.2)]) | fail
                  · first | (omega) | fail
        refine J.lsub (ls' := [(0, .ref (G.1 111)), (1, .int (nI c)), (2, .int w), (3, .int (mcl (up σ 111 0 0) w c (ct ((up σ 111 0 0) 115 1)))), (4, .int 0)]) [1, 2, 3, 4, 0] rfl ?_
        refine J.to ?_ ?_ (hl110 _ 0 (Nat.zero_le _) rfl)
        · first | (first | rfl | (simp [zc58]; done)) | fail
        · first | (rfl) | fail
      · skip
        have hlt50 := ct_go hi_i zc58
        refine j_iload_n hx d_Mo_cell_61 rfl 3 rfl ?_
        refine j_iload_n hx d_Mo_cell_62 rfl 2 rfl ?_
        refine j_iconst (v := 1) hx d_Mo_cell_63 (by decide) ?_
        refine j_icmp_ne (tgt := 98) hx d_Mo_cell_64 (by decide) (fun zc64 => ?_) (fun zc64 => ?_)
        · skip
          refine j_iconst (v := 0) hx d_Mo_cell_98 (by decide) ?_
          refine j_iadd hx d_Mo_cell_99 ?_
          refine j_istore_n hx [(3, .int ((mcl (up σ 111 0 0) w c i) + 0)), (0, .ref (G.1 111)), (1, .int (nI c)), (2, .int w), (4, .int (nI i))] d_Mo_cell_100 rfl (by decide) rfl ?_
          refine j_iinc hx [(4, .int ((nI i) + 1)), (3, .int ((mcl (up σ 111 0 0) w c i) + 0)), (0, .ref (G.1 111)), (1, .int (nI c)), (2, .int w)] d_Mo_cell_101 4 rfl rfl (by decide) rfl ?_
          refine j_goto (tgt := 50) hx d_Mo_cell_104 (by decide) ?_
          refine J.lsub (ls' := [(0, .ref (G.1 111)), (1, .int (nI c)), (2, .int w), (3, .int ((mcl (up σ 111 0 0) w c i) + 0)), (4, .int ((nI i) + 1))]) [2, 3, 4, 1, 0] rfl ?_
          refine J.to ?_ ?_ (ih50 _ ?_ (i + 1) hlt50 rfl)
          · first | (first | rfl | (simp [zc58, zc64]; done)) | fail
          · first | (simp only [nI_s, mcl, sm_s]; first | rw [b2_t (p := w = 1 ∧ hB ((up σ 111 0 0) 122 0) (nI i) ∧ (up σ 111 0 0) (143 + i) 0 = nI c) ⟨zc64, b2_nz zc78, zc91⟩] | rw [b2_f (p := w = 1 ∧ hB ((up σ 111 0 0) 122 0) (nI i) ∧ (up σ 111 0 0) (143 + i) 0 = nI c) (fun z => zc64 z.1)] | rw [b2_f (p := w = 1 ∧ hB ((up σ 111 0 0) 122 0) (nI i) ∧ (up σ 111 0 0) (143 + i) 0 = nI c) (fun z => b2_z zc78 z.2.1)] | rw [b2_f (p := w = 1 ∧ hB ((up σ 111 0 0) 122 0) (nI i) ∧ (up σ 111 0 0) (143 + i) 0 = nI c) (fun z => zc91 z.2.2)]) | fail
          · first | (omega) | fail
        · skip
          refine j_aload_n hx d_Mo_cell_67 rfl 0 rfl ?_
          refine j_get hx ck_Mo 33 (by decide) t_1451 (by decide) (sh_111 _ _) rfl d_Mo_cell_68 ?_
          refine j_iconst (v := 0) hx d_Mo_cell_71 (by decide) ?_
          have hz72_6 : zin (0) 31 0 := by first | exact ⟨rfl, by decide⟩ | exact zin_nI (by omega) (by decide) | exact zin_of (by omega) (by omega)
          refine j_ialdk hx ia_122 hz72_6 d_Mo_cell_72 ?_
          refine j_iload hx d_Mo_cell_73 4 rfl ?_
          refine j_callSi hx (c_Mo_has hG (up σ 111 0 0) ((up σ 111 0 0) 122 0) (nI i)) mo_Mo_has t_1721 t_1720 (by decide) rfl rfl (Nat.le_of_ble_eq_true rfl) d_Mo_cell_75 ?_
          refine j_if_eq (tgt := 98) hx d_Mo_cell_78 (by decide) (fun zc78 => ?_) (fun zc78 => ?_)
          · skip
            refine j_iconst (v := 0) hx d_Mo_cell_98 (by decide) ?_
            refine j_iadd hx d_Mo_cell_99 ?_
            refine j_istore_n hx [(3, .int ((mcl (up σ 111 0 0) w c i) + 0)), (0, .ref (G.1 111)), (1, .int (nI c)), (2, .int w), (4, .int (nI i))] d_Mo_cell_100 rfl (by decide) rfl ?_
            refine j_iinc hx [(4, .int ((nI i) + 1)), (3, .int ((mcl (up σ 111 0 0) w c i) + 0)), (0, .ref (G.1 111)), (1, .int (nI c)), (2, .int w)] d_Mo_cell_101 4 rfl rfl (by decide) rfl ?_
            refine j_goto (tgt := 50) hx d_Mo_cell_104 (by decide) ?_
            refine J.lsub (ls' := [(0, .ref (G.1 111)), (1, .int (nI c)), (2, .int w), (3, .int ((mcl (up σ 111 0 0) w c i) + 0)), (4, .int ((nI i) + 1))]) [2, 3, 4, 1, 0] rfl ?_
            refine J.to ?_ ?_ (ih50 _ ?_ (i + 1) hlt50 rfl)
            · first | (first | rfl | (simp [zc58, zc64, zc78]; done)) | fail
            · first | (simp only [nI_s, mcl, sm_s]; first | rw [b2_t (p := w = 1 ∧ hB ((up σ 111 0 0) 122 0) (nI i) ∧ (up σ 111 0 0) (143 + i) 0 = nI c) ⟨zc64, b2_nz zc78, zc91⟩] | rw [b2_f (p := w = 1 ∧ hB ((up σ 111 0 0) 122 0) (nI i) ∧ (up σ 111 0 0) (143 + i) 0 = nI c) (fun z => zc64 z.1)] | rw [b2_f (p := w = 1 ∧ hB ((up σ 111 0 0) 122 0) (nI i) ∧ (up σ 111 0 0) (143 + i) 0 = nI c) (fun z => b2_z zc78 z.2.1)] | rw [b2_f (p := w = 1 ∧ hB ((up σ 111 0 0) 122 0) (nI i) ∧ (up σ 111 0 0) (143 + i) 0 = nI c) (fun z => zc91 z.2.2)]) | fail
            · first | (omega) | fail
          · skip
            refine j_aload_n hx d_Mo_cell_81 rfl 0 rfl ?_
            refine j_get hx ck_Mo 18 (by decide) t_1436 (by decide) (sh_111 _ _) rfl d_Mo_cell_82 ?_
            refine j_iload hx d_Mo_cell_85 4 rfl ?_
            have hz87_7 : zin (nI i) 6 i := by first | exact ⟨rfl, by decide⟩ | exact zin_nI (by omega) (by decide) | exact zin_of (by omega) (by omega)
            refine j_aaldk hx ias_light.1.1 (ias_light.2.1 _ _) hz87_7 d_Mo_cell_87 ?_
            refine j_iconst (v := 0) hx d_Mo_cell_88 (by decide) ?_
            have hz89_8 : zin (0) 2 0 := by first | exact ⟨rfl, by decide⟩ | exact zin_nI (by omega) (by decide) | exact zin_of (by omega) (by omega)
            refine j_ialdk hx (ias_light.2.2 _ hz87_7.2) hz89_8 d_Mo_cell_89 ?_
            refine j_iload_n hx d_Mo_cell_90 rfl 1 rfl ?_
            refine j_icmp_ne (tgt := 98) hx d_Mo_cell_91 (by decide) (fun zc91 => ?_) (fun zc91 => ?_)
            · skip
              refine j_iconst (v := 0) hx d_Mo_cell_98 (by decide) ?_
              refine j_iadd hx d_Mo_cell_99 ?_
              refine j_istore_n hx [(3, .int ((mcl (up σ 111 0 0) w c i) + 0)), (0, .ref (G.1 111)), (1, .int (nI c)), (2, .int w), (4, .int (nI i))] d_Mo_cell_100 rfl (by decide) rfl ?_
              refine j_iinc hx [(4, .int ((nI i) + 1)), (3, .int ((mcl (up σ 111 0 0) w c i) + 0)), (0, .ref (G.1 111)), (1, .int (nI c)), (2, .int w)] d_Mo_cell_101 4 rfl rfl (by decide) rfl ?_
              refine j_goto (tgt := 50) hx d_Mo_cell_104 (by decide) ?_
              refine J.lsub (ls' := [(0, .ref (G.1 111)), (1, .int (nI c)), (2, .int w), (3, .int ((mcl (up σ 111 0 0) w c i) + 0)), (4, .int ((nI i) + 1))]) [2, 3, 4, 1, 0] rfl ?_
              refine J.to ?_ ?_ (ih50 _ ?_ (i + 1) hlt50 rfl)
              · first | (first | rfl | (simp [zc58, zc64, zc78, zc91]; done)) | fail
              · first | (simp only [nI_s, mcl, sm_s]; first | rw [b2_t (p := w = 1 ∧ hB ((up σ 111 0 0) 122 0) (nI i) ∧ (up σ 111 0 0) (143 + i) 0 = nI c) ⟨zc64, b2_nz zc78, zc91⟩] | rw [b2_f (p := w = 1 ∧ hB ((up σ 111 0 0) 122 0) (nI i) ∧ (up σ 111 0 0) (143 + i) 0 = nI c) (fun z => zc64 z.1)] | rw [b2_f (p := w = 1 ∧ hB ((up σ 111 0 0) 122 0) (nI i) ∧ (up σ 111 0 0) (143 + i) 0 = nI c) (fun z => b2_z zc78 z.2.1)] | rw [b2_f (p := w = 1 ∧ hB ((up σ 111 0 0) 122 0) (nI i) ∧ (up σ 111 0 0) (143 + i) 0 = nI c) (fun z => zc91 z.2.2)]) | fail
              · first | (omega) | fail
            · skip
              refine j_iconst (v := 1) hx d_Mo_cell_94 (by decide) ?_
              refine j_goto (tgt := 99) hx d_Mo_cell_95 (by decide) ?_
              refine j_iadd hx d_Mo_cell_99 ?_
              refine j_istore_n hx [(3, .int ((mcl (up σ 111 0 0) w c i) + 1)), (0, .ref (G.1 111)), (1, .int (nI c)), (2, .int w), (4, .int (nI i))] d_Mo_cell_100 rfl (by decide) rfl ?_
              refine j_iinc hx [(4, .int ((nI i) + 1)), (3, .int ((mcl (up σ 111 0 0) w c i) + 1)), (0, .ref (G.1 111)), (1, .int (nI c)), (2, .int w)] d_Mo_cell_101 4 rfl rfl (by decide) rfl ?_
              refine j_goto (tgt := 50) hx d_Mo_cell_104 (by decide) ?_
              refine J.lsub (ls' := [(0, .ref (G.1 111)), (1, .int (nI c)), (2, .int w), (3, .int ((mcl (up σ 111 0 0) w c i) + 1)), (4, .int ((nI i) + 1))]) [2, 3, 4, 1, 0] rfl ?_
              refine J.to ?_ ?_ (ih50 _ ?_ (i + 1) hlt50 rfl)
              · first | (first | rfl | (simp [zc58, zc64, zc78, zc91]; done)) | fail
              · first | (simp only [nI_s, mcl, sm_s]; first | rw [b2_t (p := w = 1 ∧ hB ((up σ 111 0 0) 122 0) (nI i) ∧ (up σ 111 0 0) (143 + i) 0 = nI c) ⟨zc64, b2_nz zc78, zc91⟩] | rw [b2_f (p := w = 1 ∧ hB ((up σ 111 0 0) 122 0) (nI i) ∧ (up σ 111 0 0) (143 + i) 0 = nI c) (fun z => zc64 z.1)] | rw [b2_f (p := w = 1 ∧ hB ((up σ 111 0 0) 122 0) (nI i) ∧ (up σ 111 0 0) (143 + i) 0 = nI c) (fun z => b2_z zc78 z.2.1)] | rw [b2_f (p := w = 1 ∧ hB ((up σ 111 0 0) 122 0) (nI i) ∧ (up σ 111 0 0) (143 + i) 0 = nI c) (fun z => zc91 z.2.2)]) | fail
              · first | (omega) | fail
  refine J.lsub (ls' := [(0, .ref (G.1 111)), (1, .int (nI c)), (2, .int w), (3, .int 0), (4, .int 0)]) [2, 3, 4, 1, 0] rfl ?_
  refine J.to ?_ ?_ (hl50 _ 0 (Nat.zero_le _) rfl)
  · first | (first | rfl | (simp []; done)) | fail
  · first | (rfl) | fail

set_option maxRecDepth 20000 in
set_option maxHeartbeats 4000000 in
theorem c_Mo_cellN {l : Launch} {G : Gz} (hG : zI G) (σ : St) (c : Int32) (w : Int32) (hT9 : 0 ≤ (σ 115 0).toInt) (hbad : ¬ (¬ c < 0 ∧ c < (up σ 111 0 0) 115 0)) : MI l G y_Mo_cell prog_14_method_64_code 5 .int 4 [.ref (G.1 111), .int c, .int w] σ 0 (mrf σ 1 0) := by
  refine MI.of hG (by decide) (Nat.le_of_ble_eq_true rfl) (fun X hx hq => ?_)
  show J l G X 5 σ 0 [(0, .ref (G.1 111)), (1, .int c), (2, .int w)] []
  refine j_aload_n hx d_Mo_cell_0 rfl 0 rfl ?_
  refine j_iconst (v := 0) hx d_Mo_cell_1 (by decide) ?_
  refine j_put hx ck_Mo 0 (by decide) t_1418 (by decide) (sh_111 _ _) rfl (Nat.le_of_ble_eq_true rfl) (sh_111 _ _) d_Mo_cell_2 ?_
  refine j_aload_n hx d_Mo_cell_5 rfl 0 rfl ?_
  refine j_aload_n hx d_Mo_cell_6 rfl 0 rfl ?_
  refine j_iconst (v := 0) hx d_Mo_cell_7 (by decide) ?_
  refine j_iload_n hx d_Mo_cell_8 rfl 1 rfl ?_
  refine j_callVi hx (c_Mo_isNo0 hG (up σ 111 0 0) 0 c (by decide) (by exact hT9) (by exact hbad)) mo_Mo_isNo mv_Mo_isNo t_1789 (by decide) rfl (by decide) (sh_111 _ _) rfl rfl (Nat.le_of_ble_eq_true rfl) d_Mo_cell_9 ?_
  refine j_iconst (v := 1) hx d_Mo_cell_12 (by decide) ?_
  refine j_iconst (v := 0) hx d_Mo_cell_13 (by decide) ?_
  refine j_callVi hx (c_Mo_bad1 hG (up σ 111 0 0) 1 1 0 (by decide) (by exact up_rd) (by decide) (by decide)) mo_Mo_bad mv_Mo_bad t_1584 (by decide) rfl (by decide) (sh_111 _ _) rfl rfl (Nat.le_of_ble_eq_true rfl) d_Mo_cell_14 ?_
  refine j_if_ne (tgt := 43) hx d_Mo_cell_17 (by decide) (fun _ => ?_) (fun zc17 => absurd zc17 (by decide))
  refine j_iconst (v := 0) hx d_Mo_cell_43 (by decide) ?_
  exact j_iret hx hq rfl d_Mo_cell_44 (by first | (rfl) | fail) (by first | (rfl) | fail)

set_option maxRecDepth 20000 in
set_option maxHeartbeats 4000000 in
theorem c_Mo_cellI {l : Launch} {G : Gz} (hG : zI G) (σ : St) (c : Int32) (w : Int32) (hc9 : ¬ c < 0 ∧ c < (up σ 111 0 0) 115 0) (hbad : ¬ (0 ≤ w ∧ w ≤ 3)) : MI l G y_Mo_cell prog_14_method_64_code 5 .int 4 [.ref (G.1 111), .int c, .int w] σ 0 (mrf σ 2 1) := by
  refine MI.of hG (by decide) (Nat.le_of_ble_eq_true rfl) (fun X hx hq => ?_)
  show J l G X 5 σ 0 [(0, .ref (G.1 111)), (1, .int c), (2, .int w)] []
  refine j_aload_n hx d_Mo_cell_0 rfl 0 rfl ?_
  refine j_iconst (v := 0) hx d_Mo_cell_1 (by decide) ?_
  refine j_put hx ck_Mo 0 (by decide) t_1418 (by decide) (sh_111 _ _) rfl (Nat.le_of_ble_eq_true rfl) (sh_111 _ _) d_Mo_cell_2 ?_
  refine j_aload_n hx d_Mo_cell_5 rfl 0 rfl ?_
  refine j_aload_n hx d_Mo_cell_6 rfl 0 rfl ?_
  refine j_iconst (v := 0) hx d_Mo_cell_7 (by decide) ?_
  refine j_iload_n hx d_Mo_cell_8 rfl 1 rfl ?_
  refine j_callVi hx (c_Mo_isNo1 hG (up σ 111 0 0) 0 c (by decide) (by exact hc9)) mo_Mo_isNo mv_Mo_isNo t_1789 (by decide) rfl (by decide) (sh_111 _ _) rfl rfl (Nat.le_of_ble_eq_true rfl) d_Mo_cell_9 ?_
  refine j_iconst (v := 1) hx d_Mo_cell_12 (by decide) ?_
  refine j_iconst (v := 0) hx d_Mo_cell_13 (by decide) ?_
  refine j_callVi hx (c_Mo_bad0 hG (up σ 111 0 0) 0 1 0 (by rfl) (by exact up_rd)) mo_Mo_bad mv_Mo_bad t_1584 (by decide) rfl (by decide) (sh_111 _ _) rfl rfl (Nat.le_of_ble_eq_true rfl) d_Mo_cell_14 ?_
  refine j_if_ne (tgt := 43) hx d_Mo_cell_17 (by decide) (fun zc17 => absurd rfl zc17) (fun _ => ?_)
  refine j_aload_n hx d_Mo_cell_20 rfl 0 rfl ?_
  refine j_iload_n hx d_Mo_cell_21 rfl 2 rfl ?_
  refine j_iconst (v := 0) hx d_Mo_cell_22 (by decide) ?_
  refine j_iconst (v := 3) hx d_Mo_cell_23 (by decide) ?_
  refine j_callSi hx (c_Mo_in0 hG (up σ 111 0 0) w 0 3 (by exact hbad)) mo_Mo_in t_1582 t_1581 (by decide) rfl rfl (Nat.le_of_ble_eq_true rfl) d_Mo_cell_24 ?_
  refine j_if_ne (tgt := 34) hx d_Mo_cell_27 (by decide) (fun zc27 => absurd rfl zc27) (fun _ => ?_)
  refine j_iconst (v := 1) hx d_Mo_cell_30 (by decide) ?_
  refine j_goto (tgt := 35) hx d_Mo_cell_31 (by decide) ?_
  refine j_iconst (v := 2) hx d_Mo_cell_35 (by decide) ?_
  refine j_iconst (v := 1) hx d_Mo_cell_36 (by decide) ?_
  refine j_callVi hx (c_Mo_bad1 hG (up σ 111 0 0) 1 2 1 (by decide) (by exact up_rd) (by decide) (by decide)) mo_Mo_bad mv_Mo_bad t_1584 (by decide) rfl (by decide) (sh_111 _ _) rfl rfl (Nat.le_of_ble_eq_true rfl) d_Mo_cell_37 ?_
  refine j_if_eq (tgt := 45) hx d_Mo_cell_40 (by decide) (fun zc40 => absurd zc40 (by decide)) (fun _ => ?_)
  refine j_iconst (v := 0) hx d_Mo_cell_43 (by decide) ?_
  exact j_iret hx hq rfl d_Mo_cell_44 (by first | (rfl) | fail) (by first | (rfl) | fail)

set_option maxRecDepth 20000 in
set_option maxHeartbeats 4000000 in
theorem c_Mo_light {l : Launch} {G : Gz} (hG : zI G) (σ : St) (j : Nat) (w : Nat) (hw : mW (up σ 111 0 0)) (hw9 : w < 3) (hc9 : j < ct ((up σ 111 0 0) 115 1)) (hv24 : 0 ≤ nI w ∧ nI w ≤ 2) : MI l G y_Mo_light prog_14_method_65_code 3 .int 9 [.ref (G.1 111), .int (nI j), .int (nI w)] σ (mli (up σ 111 0 0) j w) (t0 σ) := by
  refine MI.of hG (by decide) (Nat.le_of_ble_eq_true rfl) (fun X hx hq => ?_)
  show J l G X 3 σ 0 [(0, .ref (G.1 111)), (1, .int (nI j)), (2, .int (nI w))] []
  have hb1 : ct ((up σ 111 0 0) 115 1) ≤ 6 := hw.1.2.1
  have hb2 : ct ((up σ 111 0 0) 115 2) ≤ 3 := hw.1.2.2.1
  have hb0 : ct ((up σ 111 0 0) 115 0) ≤ 12 := hw.1.1
  have hb3 : ct ((up σ 111 0 0) 115 3) ≤ 6 := hw.1.2.2.2.1
  have hb4 : ct ((up σ 111 0 0) 115 4) ≤ 6 := hw.1.2.2.2.2
  refine j_aload_n hx d_Mo_light_0 rfl 0 rfl ?_
  refine j_iconst (v := 0) hx d_Mo_light_1 (by decide) ?_
  refine j_put hx ck_Mo 0 (by decide) t_1418 (by decide) (sh_111 _ _) rfl (Nat.le_of_ble_eq_true rfl) (sh_111 _ _) d_Mo_light_2 ?_
  refine j_aload_n hx d_Mo_light_5 rfl 0 rfl ?_
  refine j_aload_n hx d_Mo_light_6 rfl 0 rfl ?_
  refine j_iconst (v := 1) hx d_Mo_light_7 (by decide) ?_
  refine j_iload_n hx d_Mo_light_8 rfl 1 rfl ?_
  refine j_callVi hx (c_Mo_isNo1 hG (up σ 111 0 0) 1 (nI j) (by decide) (by exact vkz hc9)) mo_Mo_isNo mv_Mo_isNo t_1789 (by decide) rfl (by decide) (sh_111 _ _) rfl rfl (Nat.le_of_ble_eq_true rfl) d_Mo_light_9 ?_
  refine j_iconst (v := 1) hx d_Mo_light_12 (by decide) ?_
  refine j_iconst (v := 0) hx d_Mo_light_13 (by decide) ?_
  refine j_callVi hx (c_Mo_bad0 hG (up σ 111 0 0) 0 1 0 (by rfl) (by exact up_rd)) mo_Mo_bad mv_Mo_bad t_1584 (by decide) rfl (by decide) (sh_111 _ _) rfl rfl (Nat.le_of_ble_eq_true rfl) d_Mo_light_14 ?_
  refine j_if_ne (tgt := 43) hx d_Mo_light_17 (by decide) (fun zc17 => absurd rfl zc17) (fun _ => ?_)
  refine j_aload_n hx d_Mo_light_20 rfl 0 rfl ?_
  refine j_iload_n hx d_Mo_light_21 rfl 2 rfl ?_
  refine j_iconst (v := 0) hx d_Mo_light_22 (by decide) ?_
  refine j_iconst (v := 2) hx d_Mo_light_23 (by decide) ?_
  refine j_callSi hx (c_Mo_in1 hG (up σ 111 0 0) (nI w) 0 2 (by exact hv24)) mo_Mo_in t_1582 t_1581 (by decide) rfl rfl (Nat.le_of_ble_eq_true rfl) d_Mo_light_24 ?_
  refine j_if_ne (tgt := 34) hx d_Mo_light_27 (by decide) (fun _ => ?_) (fun zc27 => absurd zc27 (by decide))
  refine j_iconst (v := 0) hx d_Mo_light_34 (by decide) ?_
  refine j_iconst (v := 2) hx d_Mo_light_35 (by decide) ?_
  refine j_iconst (v := 1) hx d_Mo_light_36 (by decide) ?_
  refine j_callVi hx (c_Mo_bad0 hG (up σ 111 0 0) 0 2 1 (by rfl) (by exact up_rd)) mo_Mo_bad mv_Mo_bad t_1584 (by decide) rfl (by decide) (sh_111 _ _) rfl rfl (Nat.le_of_ble_eq_true rfl) d_Mo_light_37 ?_
  refine j_if_eq (tgt := 45) hx d_Mo_light_40 (by decide) (fun _ => ?_) (fun zc40 => absurd (by decide) zc40)
  refine j_iload_n hx d_Mo_light_45 rfl 2 rfl ?_
  refine j_iconst (v := 2) hx d_Mo_light_46 (by decide) ?_
  refine j_icmp_ge (tgt := 61) hx d_Mo_light_47 (by decide) (fun zc47 => ?_) (fun zc47 => ?_)
  · skip
    refine j_aload_n hx d_Mo_light_61 rfl 0 rfl ?_
    refine j_get hx ck_Mo 33 (by decide) t_1451 (by decide) (sh_111 _ _) rfl d_Mo_light_62 ?_
    refine j_iconst (v := 0) hx d_Mo_light_65 (by decide) ?_
    have hz66_1 : zin (0) 31 0 := by first | exact ⟨rfl, by decide⟩ | exact zin_nI (by omega) (by decide) | exact zin_of (by omega) (by omega)
    refine j_ialdk hx ia_122 hz66_1 d_Mo_light_66 ?_
    refine j_iload_n hx d_Mo_light_67 rfl 1 rfl ?_
    refine j_ishr hx d_Mo_light_68 ?_
    refine j_iconst (v := 1) hx d_Mo_light_69 (by decide) ?_
    refine j_iand hx d_Mo_light_70 ?_
    exact j_iret hx hq rfl d_Mo_light_71 (by first | (unfold mli; first | exact (if_pos (by omega)).symm | (rw [show (2 : Int32) = nI 2 from rfl, znI_le (by omega) (by omega)] at zc47; exact (if_neg (by omega)).symm)) | fail) (by first | (rfl) | fail)
  · skip
    rw [show (2 : Int32) = nI 2 from rfl, znI_le (by omega) (by omega)] at zc47
    refine j_aload_n hx d_Mo_light_50 rfl 0 rfl ?_
    refine j_get hx ck_Mo 18 (by decide) t_1436 (by decide) (sh_111 _ _) rfl d_Mo_light_51 ?_
    refine j_iload_n hx d_Mo_light_54 rfl 1 rfl ?_
    have hz55_2 : zin (nI j) 6 j := by first | exact ⟨rfl, by decide⟩ | exact zin_nI (by omega) (by decide) | exact zin_of (by omega) (by omega)
    refine j_aaldk hx ias_light.1.1 (ias_light.2.1 _ _) hz55_2 d_Mo_light_55 ?_
    refine j_iload_n hx d_Mo_light_56 rfl 2 rfl ?_
    have hz57_3 : zin (nI w) 2 w := by first | exact ⟨rfl, by decide⟩ | exact zin_nI (by omega) (by decide) | exact zin_of (by omega) (by omega)
    refine j_ialdk hx (ias_light.2.2 _ hz55_2.2) hz57_3 d_Mo_light_57 ?_
    refine j_goto (tgt := 71) hx d_Mo_light_58 (by decide) ?_
    exact j_iret hx hq rfl d_Mo_light_71 (by first | (unfold mli; first | exact (if_pos (by omega)).symm | (rw [show (2 : Int32) = nI 2 from rfl, znI_le (by omega) (by omega)] at zc47; exact (if_neg (by omega)).symm)) | fail) (by first | (rfl) | fail)

set_option maxRecDepth 20000 in
set_option maxHeartbeats 4000000 in
theorem c_Mo_lightN {l : Launch} {G : Gz} (hG : zI G) (σ : St) (j : Int32) (w : Int32) (hT9 : 0 ≤ (σ 115 1).toInt) (hbad : ¬ (¬ j < 0 ∧ j < (up σ 111 0 0) 115 1)) : MI l G y_Mo_light prog_14_method_65_code 3 .int 4 [.ref (G.1 111), .int j, .int w] σ 0 (mrf σ 1 0) := by
  refine MI.of hG (by decide) (Nat.le_of_ble_eq_true rfl) (fun X hx hq => ?_)
  show J l G X 3 σ 0 [(0, .ref (G.1 111)), (1, .int j), (2, .int w)] []
  refine j_aload_n hx d_Mo_light_0 rfl 0 rfl ?_
  refine j_iconst (v := 0) hx d_Mo_light_1 (by decide) ?_
  refine j_put hx ck_Mo 0 (by decide) t_1418 (by decide) (sh_111 _ _) rfl (Nat.le_of_ble_eq_true rfl) (sh_111 _ _) d_Mo_light_2 ?_
  refine j_aload_n hx d_Mo_light_5 rfl 0 rfl ?_
  refine j_aload_n hx d_Mo_light_6 rfl 0 rfl ?_
  refine j_iconst (v := 1) hx d_Mo_light_7 (by decide) ?_
  refine j_iload_n hx d_Mo_light_8 rfl 1 rfl ?_
  refine j_callVi hx (c_Mo_isNo0 hG (up σ 111 0 0) 1 j (by decide) (by exact hT9) (by exact hbad)) mo_Mo_isNo mv_Mo_isNo t_1789 (by decide) rfl (by decide) (sh_111 _ _) rfl rfl (Nat.le_of_ble_eq_true rfl) d_Mo_light_9 ?_
  refine j_iconst (v := 1) hx d_Mo_light_12 (by decide) ?_
  refine j_iconst (v := 0) hx d_Mo_light_13 (by decide) ?_
  refine j_callVi hx (c_Mo_bad1 hG (up σ 111 0 0) 1 1 0 (by decide) (by exact up_rd) (by decide) (by decide)) mo_Mo_bad mv_Mo_bad t_1584 (by decide) rfl (by decide) (sh_111 _ _) rfl rfl (Nat.le_of_ble_eq_true rfl) d_Mo_light_14 ?_
  refine j_if_ne (tgt := 43) hx d_Mo_light_17 (by decide) (fun _ => ?_) (fun zc17 => absurd zc17 (by decide))
  refine j_iconst (v := 0) hx d_Mo_light_43 (by decide) ?_
  exact j_iret hx hq rfl d_Mo_light_44 (by first | (rfl) | fail) (by first | (rfl) | fail)

set_option maxRecDepth 20000 in
set_option maxHeartbeats 4000000 in
theorem c_Mo_lightI {l : Launch} {G : Gz} (hG : zI G) (σ : St) (j : Int32) (w : Int32) (hc9 : ¬ j < 0 ∧ j < (up σ 111 0 0) 115 1) (hbad : ¬ (0 ≤ w ∧ w ≤ 2)) : MI l G y_Mo_light prog_14_method_65_code 3 .int 4 [.ref (G.1 111), .int j, .int w] σ 0 (mrf σ 2 1) := by
  refine MI.of hG (by decide) (Nat.le_of_ble_eq_true rfl) (fun X hx hq => ?_)
  show J l G X 3 σ 0 [(0, .ref (G.1 111)), (1, .int j), (2, .int w)] []
  refine j_aload_n hx d_Mo_light_0 rfl 0 rfl ?_
  refine j_iconst (v := 0) hx d_Mo_light_1 (by decide) ?_
  refine j_put hx ck_Mo 0 (by decide) t_1418 (by decide) (sh_111 _ _) rfl (Nat.le_of_ble_eq_true rfl) (sh_111 _ _) d_Mo_light_2 ?_
  refine j_aload_n hx d_Mo_light_5 rfl 0 rfl ?_
  refine j_aload_n hx d_Mo_light_6 rfl 0 rfl ?_
  refine j_iconst (v := 1) hx d_Mo_light_7 (by decide) ?_
  refine j_iload_n hx d_Mo_light_8 rfl 1 rfl ?_
  refine j_callVi hx (c_Mo_isNo1 hG (up σ 111 0 0) 1 j (by decide) (by exact hc9)) mo_Mo_isNo mv_Mo_isNo t_1789 (by decide) rfl (by decide) (sh_111 _ _) rfl rfl (Nat.le_of_ble_eq_true rfl) d_Mo_light_9 ?_
  refine j_iconst (v := 1) hx d_Mo_light_12 (by decide) ?_
  refine j_iconst (v := 0) hx d_Mo_light_13 (by decide) ?_
  refine j_callVi hx (c_Mo_bad0 hG (up σ 111 0 0) 0 1 0 (by rfl) (by exact up_rd)) mo_Mo_bad mv_Mo_bad t_1584 (by decide) rfl (by decide) (sh_111 _ _) rfl rfl (Nat.le_of_ble_eq_true rfl) d_Mo_light_14 ?_
  refine j_if_ne (tgt := 43) hx d_Mo_light_17 (by decide) (fun zc17 => absurd rfl zc17) (fun _ => ?_)
  refine j_aload_n hx d_Mo_light_20 rfl 0 rfl ?_
  refine j_iload_n hx d_Mo_light_21 rfl 2 rfl ?_
  refine j_iconst (v := 0) hx d_Mo_light_22 (by decide) ?_
  refine j_iconst (v := 2) hx d_Mo_light_23 (by decide) ?_
  refine j_callSi hx (c_Mo_in0 hG (up σ 111 0 0) w 0 2 (by exact hbad)) mo_Mo_in t_1582 t_1581 (by decide) rfl rfl (Nat.le_of_ble_eq_true rfl) d_Mo_light_24 ?_
  refine j_if_ne (tgt := 34) hx d_Mo_light_27 (by decide) (fun zc27 => absurd rfl zc27) (fun _ => ?_)
  refine j_iconst (v := 1) hx d_Mo_light_30 (by decide) ?_
  refine j_goto (tgt := 35) hx d_Mo_light_31 (by decide) ?_
  refine j_iconst (v := 2) hx d_Mo_light_35 (by decide) ?_
  refine j_iconst (v := 1) hx d_Mo_light_36 (by decide) ?_
  refine j_callVi hx (c_Mo_bad1 hG (up σ 111 0 0) 1 2 1 (by decide) (by exact up_rd) (by decide) (by decide)) mo_Mo_bad mv_Mo_bad t_1584 (by decide) rfl (by decide) (sh_111 _ _) rfl rfl (Nat.le_of_ble_eq_true rfl) d_Mo_light_37 ?_
  refine j_if_eq (tgt := 45) hx d_Mo_light_40 (by decide) (fun zc40 => absurd zc40 (by decide)) (fun _ => ?_)
  refine j_iconst (v := 0) hx d_Mo_light_43 (by decide) ?_
  exact j_iret hx hq rfl d_Mo_light_44 (by first | (rfl) | fail) (by first | (rfl) | fail)

set_option maxRecDepth 20000 in
set_option maxHeartbeats 4000000 in
theorem c_Mo_donkey {l : Launch} {G : Gz} (hG : zI G) (σ : St) (d : Nat) (w : Nat) (hw : mW (up σ 111 0 0)) (hw9 : w < 2) (hc9 : d < ct ((up σ 111 0 0) 115 2)) (hv24 : 0 ≤ nI w ∧ nI w ≤ 1) : MI l G y_Mo_donkey prog_14_method_66_code 3 .int 9 [.ref (G.1 111), .int (nI d), .int (nI w)] σ (mdo (up σ 111 0 0) d w) (t0 σ) := by
  refine MI.of hG (by decide) (Nat.le_of_ble_eq_true rfl) (fun X hx hq => ?_)
  show J l G X 3 σ 0 [(0, .ref (G.1 111)), (1, .int (nI d)), (2, .int (nI w))] []
  have hb1 : ct ((up σ 111 0 0) 115 1) ≤ 6 := hw.1.2.1
  have hb2 : ct ((up σ 111 0 0) 115 2) ≤ 3 := hw.1.2.2.1
  have hb0 : ct ((up σ 111 0 0) 115 0) ≤ 12 := hw.1.1
  have hb3 : ct ((up σ 111 0 0) 115 3) ≤ 6 := hw.1.2.2.2.1
  have hb4 : ct ((up σ 111 0 0) 115 4) ≤ 6 := hw.1.2.2.2.2
  refine j_aload_n hx d_Mo_donkey_0 rfl 0 rfl ?_
  refine j_iconst (v := 0) hx d_Mo_donkey_1 (by decide) ?_
  refine j_put hx ck_Mo 0 (by decide) t_1418 (by decide) (sh_111 _ _) rfl (Nat.le_of_ble_eq_true rfl) (sh_111 _ _) d_Mo_donkey_2 ?_
  refine j_aload_n hx d_Mo_donkey_5 rfl 0 rfl ?_
  refine j_aload_n hx d_Mo_donkey_6 rfl 0 rfl ?_
  refine j_iconst (v := 2) hx d_Mo_donkey_7 (by decide) ?_
  refine j_iload_n hx d_Mo_donkey_8 rfl 1 rfl ?_
  refine j_callVi hx (c_Mo_isNo1 hG (up σ 111 0 0) 2 (nI d) (by decide) (by exact vkz hc9)) mo_Mo_isNo mv_Mo_isNo t_1789 (by decide) rfl (by decide) (sh_111 _ _) rfl rfl (Nat.le_of_ble_eq_true rfl) d_Mo_donkey_9 ?_
  refine j_iconst (v := 1) hx d_Mo_donkey_12 (by decide) ?_
  refine j_iconst (v := 0) hx d_Mo_donkey_13 (by decide) ?_
  refine j_callVi hx (c_Mo_bad0 hG (up σ 111 0 0) 0 1 0 (by rfl) (by exact up_rd)) mo_Mo_bad mv_Mo_bad t_1584 (by decide) rfl (by decide) (sh_111 _ _) rfl rfl (Nat.le_of_ble_eq_true rfl) d_Mo_donkey_14 ?_
  refine j_if_ne (tgt := 43) hx d_Mo_donkey_17 (by decide) (fun zc17 => absurd rfl zc17) (fun _ => ?_)
  refine j_aload_n hx d_Mo_donkey_20 rfl 0 rfl ?_
  refine j_iload_n hx d_Mo_donkey_21 rfl 2 rfl ?_
  refine j_iconst (v := 0) hx d_Mo_donkey_22 (by decide) ?_
  refine j_iconst (v := 1) hx d_Mo_donkey_23 (by decide) ?_
  refine j_callSi hx (c_Mo_in1 hG (up σ 111 0 0) (nI w) 0 1 (by exact hv24)) mo_Mo_in t_1582 t_1581 (by decide) rfl rfl (Nat.le_of_ble_eq_true rfl) d_Mo_donkey_24 ?_
  refine j_if_ne (tgt := 34) hx d_Mo_donkey_27 (by decide) (fun _ => ?_) (fun zc27 => absurd zc27 (by decide))
  refine j_iconst (v := 0) hx d_Mo_donkey_34 (by decide) ?_
  refine j_iconst (v := 2) hx d_Mo_donkey_35 (by decide) ?_
  refine j_iconst (v := 1) hx d_Mo_donkey_36 (by decide) ?_
  refine j_callVi hx (c_Mo_bad0 hG (up σ 111 0 0) 0 2 1 (by rfl) (by exact up_rd)) mo_Mo_bad mv_Mo_bad t_1584 (by decide) rfl (by decide) (sh_111 _ _) rfl rfl (Nat.le_of_ble_eq_true rfl) d_Mo_donkey_37 ?_
  refine j_if_eq (tgt := 45) hx d_Mo_donkey_40 (by decide) (fun _ => ?_) (fun zc40 => absurd (by decide) zc40)
  refine j_iload_n hx d_Mo_donkey_45 rfl 2 rfl ?_
  refine j_if_ne (tgt := 60) hx d_Mo_donkey_46 (by decide) (fun zc46 => ?_) (fun zc46 => ?_)
  · skip
    refine j_aload_n hx d_Mo_donkey_60 rfl 0 rfl ?_
    refine j_get hx ck_Mo 20 (by decide) t_1438 (by decide) (sh_111 _ _) rfl d_Mo_donkey_61 ?_
    refine j_iload_n hx d_Mo_donkey_64 rfl 1 rfl ?_
    have hz65_1 : zin (nI d) 3 d := by first | exact ⟨rfl, by decide⟩ | exact zin_nI (by omega) (by decide) | exact zin_of (by omega) (by omega)
    refine j_aaldk hx ias_donkey.1.1 (ias_donkey.2.1 _ _) hz65_1 d_Mo_donkey_65 ?_
    refine j_iconst (v := 1) hx d_Mo_donkey_66 (by decide) ?_
    have hz67_2 : zin (1) 2 1 := by first | exact ⟨rfl, by decide⟩ | exact zin_nI (by omega) (by decide) | exact zin_of (by omega) (by omega)
    refine j_ialdk hx (ias_donkey.2.2 _ hz65_1.2) hz67_2 d_Mo_donkey_67 ?_
    exact j_iret hx hq rfl d_Mo_donkey_68 (by first | (unfold mdo; first | exact (if_pos (znW (b := 0) zc46)).symm | exact (if_neg (znN (b := 0) zc46)).symm) | fail) (by first | (rfl) | fail)
  · skip
    refine j_aload_n hx d_Mo_donkey_49 rfl 0 rfl ?_
    refine j_get hx ck_Mo 33 (by decide) t_1451 (by decide) (sh_111 _ _) rfl d_Mo_donkey_50 ?_
    refine j_iconst (v := 1) hx d_Mo_donkey_53 (by decide) ?_
    refine j_iload_n hx d_Mo_donkey_54 rfl 1 rfl ?_
    refine j_iadd hx d_Mo_donkey_55 ?_
    have hz56_3 : zin (1 + (nI d)) 31 ((1 + d)) := by first | exact ⟨rfl, by decide⟩ | exact zin_nI (by omega) (by decide) | exact zin_add (c := 1) (by omega) (by decide) | exact zin_of (by omega) (by omega)
    refine j_ialdk hx ia_122 hz56_3 d_Mo_donkey_56 ?_
    refine j_goto (tgt := 68) hx d_Mo_donkey_57 (by decide) ?_
    exact j_iret hx hq rfl d_Mo_donkey_68 (by first | (unfold mdo; first | exact (if_pos (znW (b := 0) zc46)).symm | exact (if_neg (znN (b := 0) zc46)).symm) | fail) (by first | (rfl) | fail)

set_option maxRecDepth 20000 in
set_option maxHeartbeats 4000000 in
theorem c_Mo_donkeyN {l : Launch} {G : Gz} (hG : zI G) (σ : St) (d : Int32) (w : Int32) (hT9 : 0 ≤ (σ 115 2).toInt) (hbad : ¬ (¬ d < 0 ∧ d < (up σ 111 0 0) 115 2)) : MI l G y_Mo_donkey prog_14_method_66_code 3 .int 4 [.ref (G.1 111), .int d, .int w] σ 0 (mrf σ 1 0) := by
  refine MI.of hG (by decide) (Nat.le_of_ble_eq_true rfl) (fun X hx hq => ?_)
  show J l G X 3 σ 0 [(0, .ref (G.1 111)), (1, .int d), (2, .int w)] []
  refine j_aload_n hx d_Mo_donkey_0 rfl 0 rfl ?_
  refine j_iconst (v := 0) hx d_Mo_donkey_1 (by decide) ?_
  refine j_put hx ck_Mo 0 (by decide) t_1418 (by decide) (sh_111 _ _) rfl (Nat.le_of_ble_eq_true rfl) (sh_111 _ _) d_Mo_donkey_2 ?_
  refine j_aload_n hx d_Mo_donkey_5 rfl 0 rfl ?_
  refine j_aload_n hx d_Mo_donkey_6 rfl 0 rfl ?_
  refine j_iconst (v := 2) hx d_Mo_donkey_7 (by decide) ?_
  refine j_iload_n hx d_Mo_donkey_8 rfl 1 rfl ?_
  refine j_callVi hx (c_Mo_isNo0 hG (up σ 111 0 0) 2 d (by decide) (by exact hT9) (by exact hbad)) mo_Mo_isNo mv_Mo_isNo t_1789 (by decide) rfl (by decide) (sh_111 _ _) rfl rfl (Nat.le_of_ble_eq_true rfl) d_Mo_donkey_9 ?_
  refine j_iconst (v := 1) hx d_Mo_donkey_12 (by decide) ?_
  refine j_iconst (v := 0) hx d_Mo_donkey_13 (by decide) ?_
  refine j_callVi hx (c_Mo_bad1 hG (up σ 111 0 0) 1 1 0 (by decide) (by exact up_rd) (by decide) (by decide)) mo_Mo_bad mv_Mo_bad t_1584 (by decide) rfl (by decide) (sh_111 _ _) rfl rfl (Nat.le_of_ble_eq_true rfl) d_Mo_donkey_14 ?_
  refine j_if_ne (tgt := 43) hx d_Mo_donkey_17 (by decide) (fun _ => ?_) (fun zc17 => absurd zc17 (by decide))
  refine j_iconst (v := 0) hx d_Mo_donkey_43 (by decide) ?_
  exact j_iret hx hq rfl d_Mo_donkey_44 (by first | (rfl) | fail) (by first | (rfl) | fail)

set_option maxRecDepth 20000 in
set_option maxHeartbeats 4000000 in
theorem c_Mo_donkeyI {l : Launch} {G : Gz} (hG : zI G) (σ : St) (d : Int32) (w : Int32) (hc9 : ¬ d < 0 ∧ d < (up σ 111 0 0) 115 2) (hbad : ¬ (0 ≤ w ∧ w ≤ 1)) : MI l G y_Mo_donkey prog_14_method_66_code 3 .int 4 [.ref (G.1 111), .int d, .int w] σ 0 (mrf σ 2 1) := by
  refine MI.of hG (by decide) (Nat.le_of_ble_eq_true rfl) (fun X hx hq => ?_)
  show J l G X 3 σ 0 [(0, .ref (G.1 111)), (1, .int d), (2, .int w)] []
  refine j_aload_n hx d_Mo_donkey_0 rfl 0 rfl ?_
  refine j_iconst (v := 0) hx d_Mo_donkey_1 (by decide) ?_
  refine j_put hx ck_Mo 0 (by decide) t_1418 (by decide) (sh_111 _ _) rfl (Nat.le_of_ble_eq_true rfl) (sh_111 _ _) d_Mo_donkey_2 ?_
  refine j_aload_n hx d_Mo_donkey_5 rfl 0 rfl ?_
  refine j_aload_n hx d_Mo_donkey_6 rfl 0 rfl ?_
  refine j_iconst (v := 2) hx d_Mo_donkey_7 (by decide) ?_
  refine j_iload_n hx d_Mo_donkey_8 rfl 1 rfl ?_
  refine j_callVi hx (c_Mo_isNo1 hG (up σ 111 0 0) 2 d (by decide) (by exact hc9)) mo_Mo_isNo mv_Mo_isNo t_1789 (by decide) rfl (by decide) (sh_111 _ _) rfl rfl (Nat.le_of_ble_eq_true rfl) d_Mo_donkey_9 ?_
  refine j_iconst (v := 1) hx d_Mo_donkey_12 (by decide) ?_
  refine j_iconst (v := 0) hx d_Mo_donkey_13 (by decide) ?_
  refine j_callVi hx (c_Mo_bad0 hG (up σ 111 0 0) 0 1 0 (by rfl) (by exact up_rd)) mo_Mo_bad mv_Mo_bad t_1584 (by decide) rfl (by decide) (sh_111 _ _) rfl rfl (Nat.le_of_ble_eq_true rfl) d_Mo_donkey_14 ?_
  refine j_if_ne (tgt := 43) hx d_Mo_donkey_17 (by decide) (fun zc17 => absurd rfl zc17) (fun _ => ?_)
  refine j_aload_n hx d_Mo_donkey_20 rfl 0 rfl ?_
  refine j_iload_n hx d_Mo_donkey_21 rfl 2 rfl ?_
  refine j_iconst (v := 0) hx d_Mo_donkey_22 (by decide) ?_
  refine j_iconst (v := 1) hx d_Mo_donkey_23 (by decide) ?_
  refine j_callSi hx (c_Mo_in0 hG (up σ 111 0 0) w 0 1 (by exact hbad)) mo_Mo_in t_1582 t_1581 (by decide) rfl rfl (Nat.le_of_ble_eq_true rfl) d_Mo_donkey_24 ?_
  refine j_if_ne (tgt := 34) hx d_Mo_donkey_27 (by decide) (fun zc27 => absurd rfl zc27) (fun _ => ?_)
  refine j_iconst (v := 1) hx d_Mo_donkey_30 (by decide) ?_
  refine j_goto (tgt := 35) hx d_Mo_donkey_31 (by decide) ?_
  refine j_iconst (v := 2) hx d_Mo_donkey_35 (by decide) ?_
  refine j_iconst (v := 1) hx d_Mo_donkey_36 (by decide) ?_
  refine j_callVi hx (c_Mo_bad1 hG (up σ 111 0 0) 1 2 1 (by decide) (by exact up_rd) (by decide) (by decide)) mo_Mo_bad mv_Mo_bad t_1584 (by decide) rfl (by decide) (sh_111 _ _) rfl rfl (Nat.le_of_ble_eq_true rfl) d_Mo_donkey_37 ?_
  refine j_if_eq (tgt := 45) hx d_Mo_donkey_40 (by decide) (fun zc40 => absurd zc40 (by decide)) (fun _ => ?_)
  refine j_iconst (v := 0) hx d_Mo_donkey_43 (by decide) ?_
  exact j_iret hx hq rfl d_Mo_donkey_44 (by first | (rfl) | fail) (by first | (rfl) | fail)

set_option maxRecDepth 20000 in
set_option maxHeartbeats 4000000 in
theorem c_Mo_ship {l : Launch} {G : Gz} (hG : zI G) (σ : St) (s : Nat) (w : Nat) (hw : mW (up σ 111 0 0)) (hw9 : w < 6) (hc9 : s < ct ((up σ 111 0 0) 115 3)) (hv24 : 0 ≤ nI w ∧ nI w ≤ 5) : MI l G y_Mo_ship prog_14_method_67_code 3 .int 9 [.ref (G.1 111), .int (nI s), .int (nI w)] σ (msh (up σ 111 0 0) s w) (t0 σ) := by
  refine MI.of hG (by decide) (Nat.le_of_ble_eq_true rfl) (fun X hx hq => ?_)
  show J l G X 3 σ 0 [(0, .ref (G.1 111)), (1, .int (nI s)), (2, .int (nI w))] []
  have hb1 : ct ((up σ 111 0 0) 115 1) ≤ 6 := hw.1.2.1
  have hb2 : ct ((up σ 111 0 0) 115 2) ≤ 3 := hw.1.2.2.1
  have hb0 : ct ((up σ 111 0 0) 115 0) ≤ 12 := hw.1.1
  have hb3 : ct ((up σ 111 0 0) 115 3) ≤ 6 := hw.1.2.2.2.1
  have hb4 : ct ((up σ 111 0 0) 115 4) ≤ 6 := hw.1.2.2.2.2
  refine j_aload_n hx d_Mo_ship_0 rfl 0 rfl ?_
  refine j_iconst (v := 0) hx d_Mo_ship_1 (by decide) ?_
  refine j_put hx ck_Mo 0 (by decide) t_1418 (by decide) (sh_111 _ _) rfl (Nat.le_of_ble_eq_true rfl) (sh_111 _ _) d_Mo_ship_2 ?_
  refine j_aload_n hx d_Mo_ship_5 rfl 0 rfl ?_
  refine j_aload_n hx d_Mo_ship_6 rfl 0 rfl ?_
  refine j_iconst (v := 3) hx d_Mo_ship_7 (by decide) ?_
  refine j_iload_n hx d_Mo_ship_8 rfl 1 rfl ?_
  refine j_callVi hx (c_Mo_isNo1 hG (up σ 111 0 0) 3 (nI s) (by decide) (by exact vkz hc9)) mo_Mo_isNo mv_Mo_isNo t_1789 (by decide) rfl (by decide) (sh_111 _ _) rfl rfl (Nat.le_of_ble_eq_true rfl) d_Mo_ship_9 ?_
  refine j_iconst (v := 1) hx d_Mo_ship_12 (by decide) ?_
  refine j_iconst (v := 0) hx d_Mo_ship_13 (by decide) ?_
  refine j_callVi hx (c_Mo_bad0 hG (up σ 111 0 0) 0 1 0 (by rfl) (by exact up_rd)) mo_Mo_bad mv_Mo_bad t_1584 (by decide) rfl (by decide) (sh_111 _ _) rfl rfl (Nat.le_of_ble_eq_true rfl) d_Mo_ship_14 ?_
  refine j_if_ne (tgt := 43) hx d_Mo_ship_17 (by decide) (fun zc17 => absurd rfl zc17) (fun _ => ?_)
  refine j_aload_n hx d_Mo_ship_20 rfl 0 rfl ?_
  refine j_iload_n hx d_Mo_ship_21 rfl 2 rfl ?_
  refine j_iconst (v := 0) hx d_Mo_ship_22 (by decide) ?_
  refine j_iconst (v := 5) hx d_Mo_ship_23 (by decide) ?_
  refine j_callSi hx (c_Mo_in1 hG (up σ 111 0 0) (nI w) 0 5 (by exact hv24)) mo_Mo_in t_1582 t_1581 (by decide) rfl rfl (Nat.le_of_ble_eq_true rfl) d_Mo_ship_24 ?_
  refine j_if_ne (tgt := 34) hx d_Mo_ship_27 (by decide) (fun _ => ?_) (fun zc27 => absurd zc27 (by decide))
  refine j_iconst (v := 0) hx d_Mo_ship_34 (by decide) ?_
  refine j_iconst (v := 2) hx d_Mo_ship_35 (by decide) ?_
  refine j_iconst (v := 1) hx d_Mo_ship_36 (by decide) ?_
  refine j_callVi hx (c_Mo_bad0 hG (up σ 111 0 0) 0 2 1 (by rfl) (by exact up_rd)) mo_Mo_bad mv_Mo_bad t_1584 (by decide) rfl (by decide) (sh_111 _ _) rfl rfl (Nat.le_of_ble_eq_true rfl) d_Mo_ship_37 ?_
  refine j_if_eq (tgt := 45) hx d_Mo_ship_40 (by decide) (fun _ => ?_) (fun zc40 => absurd (by decide) zc40)
  refine j_iload_n hx d_Mo_ship_45 rfl 2 rfl ?_
  refine j_iconst (v := 4) hx d_Mo_ship_46 (by decide) ?_
  refine j_icmp_ge (tgt := 61) hx d_Mo_ship_47 (by decide) (fun zc47 => ?_) (fun zc47 => ?_)
  · skip
    refine j_iload_n hx d_Mo_ship_61 rfl 2 rfl ?_
    refine j_iconst (v := 4) hx d_Mo_ship_62 (by decide) ?_
    refine j_icmp_ne (tgt := 79) hx d_Mo_ship_63 (by decide) (fun zc63 => ?_) (fun zc63 => ?_)
    · skip
      refine j_aload_n hx d_Mo_ship_79 rfl 0 rfl ?_
      refine j_get hx ck_Mo 33 (by decide) t_1451 (by decide) (sh_111 _ _) rfl d_Mo_ship_80 ?_
      refine j_iconst (v := 5) hx d_Mo_ship_83 (by decide) ?_
      refine j_iload_n hx d_Mo_ship_84 rfl 1 rfl ?_
      refine j_iadd hx d_Mo_ship_85 ?_
      have hz86_1 : zin (5 + (nI s)) 31 ((5 + s)) := by first | exact ⟨rfl, by decide⟩ | exact zin_nI (by omega) (by decide) | exact zin_add (c := 5) (by omega) (by decide) | exact zin_of (by omega) (by omega)
      refine j_ialdk hx ia_122 hz86_1 d_Mo_ship_86 ?_
      exact j_iret hx hq rfl d_Mo_ship_87 (by first | (unfold msh; first | exact (if_pos (by omega)).symm | (rw [show (4 : Int32) = nI 4 from rfl, znI_le (by omega) (by omega)] at zc47; rw [if_neg (show ¬ w < 4 by omega)]; first | exact (if_pos (znW (b := 4) zc63)).symm | exact (if_neg (znN (b := 4) zc63)).symm)) | fail) (by first | (rfl) | fail)
    · skip
      refine j_aload_n hx d_Mo_ship_66 rfl 0 rfl ?_
      refine j_get hx ck_Mo 33 (by decide) t_1451 (by decide) (sh_111 _ _) rfl d_Mo_ship_67 ?_
      refine j_iconst (v := 4) hx d_Mo_ship_70 (by decide) ?_
      have hz71_2 : zin (4) 31 4 := by first | exact ⟨rfl, by decide⟩ | exact zin_nI (by omega) (by decide) | exact zin_of (by omega) (by omega)
      refine j_ialdk hx ia_122 hz71_2 d_Mo_ship_71 ?_
      refine j_iload_n hx d_Mo_ship_72 rfl 1 rfl ?_
      refine j_ishr hx d_Mo_ship_73 ?_
      refine j_iconst (v := 1) hx d_Mo_ship_74 (by decide) ?_
      refine j_iand hx d_Mo_ship_75 ?_
      refine j_goto (tgt := 87) hx d_Mo_ship_76 (by decide) ?_
      exact j_iret hx hq rfl d_Mo_ship_87 (by first | (unfold msh; first | exact (if_pos (by omega)).symm | (rw [show (4 : Int32) = nI 4 from rfl, znI_le (by omega) (by omega)] at zc47; rw [if_neg (show ¬ w < 4 by omega)]; first | exact (if_pos (znW (b := 4) zc63)).symm | exact (if_neg (znN (b := 4) zc63)).symm)) | fail) (by first | (rfl) | fail)
  · skip
    rw [show (4 : Int32) = nI 4 from rfl, znI_le (by omega) (by omega)] at zc47
    refine j_aload_n hx d_Mo_ship_50 rfl 0 rfl ?_
    refine j_get hx ck_Mo 22 (by decide) t_1440 (by decide) (sh_111 _ _) rfl d_Mo_ship_51 ?_
    refine j_iload_n hx d_Mo_ship_54 rfl 1 rfl ?_
    have hz55_3 : zin (nI s) 6 s := by first | exact ⟨rfl, by decide⟩ | exact zin_nI (by omega) (by decide) | exact zin_of (by omega) (by omega)
    refine j_aaldk hx ias_ship.1.1 (ias_ship.2.1 _ _) hz55_3 d_Mo_ship_55 ?_
    refine j_iload_n hx d_Mo_ship_56 rfl 2 rfl ?_
    have hz57_4 : zin (nI w) 4 w := by first | exact ⟨rfl, by decide⟩ | exact zin_nI (by omega) (by decide) | exact zin_of (by omega) (by omega)
    refine j_ialdk hx (ias_ship.2.2 _ hz55_3.2) hz57_4 d_Mo_ship_57 ?_
    refine j_goto (tgt := 87) hx d_Mo_ship_58 (by decide) ?_
    exact j_iret hx hq rfl d_Mo_ship_87 (by first | (unfold msh; first | exact (if_pos (by omega)).symm | (rw [show (4 : Int32) = nI 4 from rfl, znI_le (by omega) (by omega)] at zc47; rw [if_neg (show ¬ w < 4 by omega)]; first | exact (if_pos (znW (b := 4) zc63)).symm | exact (if_neg (znN (b := 4) zc63)).symm)) | fail) (by first | (rfl) | fail)

set_option maxRecDepth 20000 in
set_option maxHeartbeats 4000000 in
theorem c_Mo_shipN {l : Launch} {G : Gz} (hG : zI G) (σ : St) (s : Int32) (w : Int32) (hT9 : 0 ≤ (σ 115 3).toInt) (hbad : ¬ (¬ s < 0 ∧ s < (up σ 111 0 0) 115 3)) : MI l G y_Mo_ship prog_14_method_67_code 3 .int 4 [.ref (G.1 111), .int s, .int w] σ 0 (mrf σ 1 0) := by
  refine MI.of hG (by decide) (Nat.le_of_ble_eq_true rfl) (fun X hx hq => ?_)
  show J l G X 3 σ 0 [(0, .ref (G.1 111)), (1, .int s), (2, .int w)] []
  refine j_aload_n hx d_Mo_ship_0 rfl 0 rfl ?_
  refine j_iconst (v := 0) hx d_Mo_ship_1 (by decide) ?_
  refine j_put hx ck_Mo 0 (by decide) t_1418 (by decide) (sh_111 _ _) rfl (Nat.le_of_ble_eq_true rfl) (sh_111 _ _) d_Mo_ship_2 ?_
  refine j_aload_n hx d_Mo_ship_5 rfl 0 rfl ?_
  refine j_aload_n hx d_Mo_ship_6 rfl 0 rfl ?_
  refine j_iconst (v := 3) hx d_Mo_ship_7 (by decide) ?_
  refine j_iload_n hx d_Mo_ship_8 rfl 1 rfl ?_
  refine j_callVi hx (c_Mo_isNo0 hG (up σ 111 0 0) 3 s (by decide) (by exact hT9) (by exact hbad)) mo_Mo_isNo mv_Mo_isNo t_1789 (by decide) rfl (by decide) (sh_111 _ _) rfl rfl (Nat.le_of_ble_eq_true rfl) d_Mo_ship_9 ?_
  refine j_iconst (v := 1) hx d_Mo_ship_12 (by decide) ?_
  refine j_iconst (v := 0) hx d_Mo_ship_13 (by decide) ?_
  refine j_callVi hx (c_Mo_bad1 hG (up σ 111 0 0) 1 1 0 (by decide) (by exact up_rd) (by decide) (by decide)) mo_Mo_bad mv_Mo_bad t_1584 (by decide) rfl (by decide) (sh_111 _ _) rfl rfl (Nat.le_of_ble_eq_true rfl) d_Mo_ship_14 ?_
  refine j_if_ne (tgt := 43) hx d_Mo_ship_17 (by decide) (fun _ => ?_) (fun zc17 => absurd zc17 (by decide))
  refine j_iconst (v := 0) hx d_Mo_ship_43 (by decide) ?_
  exact j_iret hx hq rfl d_Mo_ship_44 (by first | (rfl) | fail) (by first | (rfl) | fail)

set_option maxRecDepth 20000 in
set_option maxHeartbeats 4000000 in
theorem c_Mo_shipI {l : Launch} {G : Gz} (hG : zI G) (σ : St) (s : Int32) (w : Int32) (hc9 : ¬ s < 0 ∧ s < (up σ 111 0 0) 115 3) (hbad : ¬ (0 ≤ w ∧ w ≤ 5)) : MI l G y_Mo_ship prog_14_method_67_code 3 .int 4 [.ref (G.1 111), .int s, .int w] σ 0 (mrf σ 2 1) := by
  refine MI.of hG (by decide) (Nat.le_of_ble_eq_true rfl) (fun X hx hq => ?_)
  show J l G X 3 σ 0 [(0, .ref (G.1 111)), (1, .int s), (2, .int w)] []
  refine j_aload_n hx d_Mo_ship_0 rfl 0 rfl ?_
  refine j_iconst (v := 0) hx d_Mo_ship_1 (by decide) ?_
  refine j_put hx ck_Mo 0 (by decide) t_1418 (by decide) (sh_111 _ _) rfl (Nat.le_of_ble_eq_true rfl) (sh_111 _ _) d_Mo_ship_2 ?_
  refine j_aload_n hx d_Mo_ship_5 rfl 0 rfl ?_
  refine j_aload_n hx d_Mo_ship_6 rfl 0 rfl ?_
  refine j_iconst (v := 3) hx d_Mo_ship_7 (by decide) ?_
  refine j_iload_n hx d_Mo_ship_8 rfl 1 rfl ?_
  refine j_callVi hx (c_Mo_isNo1 hG (up σ 111 0 0) 3 s (by decide) (by exact hc9)) mo_Mo_isNo mv_Mo_isNo t_1789 (by decide) rfl (by decide) (sh_111 _ _) rfl rfl (Nat.le_of_ble_eq_true rfl) d_Mo_ship_9 ?_
  refine j_iconst (v := 1) hx d_Mo_ship_12 (by decide) ?_
  refine j_iconst (v := 0) hx d_Mo_ship_13 (by decide) ?_
  refine j_callVi hx (c_Mo_bad0 hG (up σ 111 0 0) 0 1 0 (by rfl) (by exact up_rd)) mo_Mo_bad mv_Mo_bad t_1584 (by decide) rfl (by decide) (sh_111 _ _) rfl rfl (Nat.le_of_ble_eq_true rfl) d_Mo_ship_14 ?_
  refine j_if_ne (tgt := 43) hx d_Mo_ship_17 (by decide) (fun zc17 => absurd rfl zc17) (fun _ => ?_)
  refine j_aload_n hx d_Mo_ship_20 rfl 0 rfl ?_
  refine j_iload_n hx d_Mo_ship_21 rfl 2 rfl ?_
  refine j_iconst (v := 0) hx d_Mo_ship_22 (by decide) ?_
  refine j_iconst (v := 5) hx d_Mo_ship_23 (by decide) ?_
  refine j_callSi hx (c_Mo_in0 hG (up σ 111 0 0) w 0 5 (by exact hbad)) mo_Mo_in t_1582 t_1581 (by decide) rfl rfl (Nat.le_of_ble_eq_true rfl) d_Mo_ship_24 ?_
  refine j_if_ne (tgt := 34) hx d_Mo_ship_27 (by decide) (fun zc27 => absurd rfl zc27) (fun _ => ?_)
  refine j_iconst (v := 1) hx d_Mo_ship_30 (by decide) ?_
  refine j_goto (tgt := 35) hx d_Mo_ship_31 (by decide) ?_
  refine j_iconst (v := 2) hx d_Mo_ship_35 (by decide) ?_
  refine j_iconst (v := 1) hx d_Mo_ship_36 (by decide) ?_
  refine j_callVi hx (c_Mo_bad1 hG (up σ 111 0 0) 1 2 1 (by decide) (by exact up_rd) (by decide) (by decide)) mo_Mo_bad mv_Mo_bad t_1584 (by decide) rfl (by decide) (sh_111 _ _) rfl rfl (Nat.le_of_ble_eq_true rfl) d_Mo_ship_37 ?_
  refine j_if_eq (tgt := 45) hx d_Mo_ship_40 (by decide) (fun zc40 => absurd zc40 (by decide)) (fun _ => ?_)
  refine j_iconst (v := 0) hx d_Mo_ship_43 (by decide) ?_
  exact j_iret hx hq rfl d_Mo_ship_44 (by first | (rfl) | fail) (by first | (rfl) | fail)

set_option maxRecDepth 20000 in
set_option maxHeartbeats 4000000 in
theorem c_Mo_seen {l : Launch} {G : Gz} (hG : zI G) (σ : St) (c : Nat) (m : Int32) (hw : mW (up σ 111 0 0)) (hr : rW (up σ 111 0 0) 122) (hc9 : c < ct ((up σ 111 0 0) 115 0)) (hv25 : 0 ≤ m ∧ m ≤ 99) : MI l G y_Mo_seen prog_14_method_68_code 3 .int 9 [.ref (G.1 111), .int (nI c), .int m] σ (msb (up σ 111 0 0) 122 (nI c) m) (t0 σ) := by
  refine MI.of hG (by decide) (Nat.le_of_ble_eq_true rfl) (fun X hx hq => ?_)
  show J l G X 3 σ 0 [(0, .ref (G.1 111)), (1, .int (nI c)), (2, .int m)] []
  refine j_aload_n hx d_Mo_seen_0 rfl 0 rfl ?_
  refine j_iconst (v := 0) hx d_Mo_seen_1 (by decide) ?_
  refine j_put hx ck_Mo 0 (by decide) t_1418 (by decide) (sh_111 _ _) rfl (Nat.le_of_ble_eq_true rfl) (sh_111 _ _) d_Mo_seen_2 ?_
  refine j_aload_n hx d_Mo_seen_5 rfl 0 rfl ?_
  refine j_aload_n hx d_Mo_seen_6 rfl 0 rfl ?_
  refine j_iconst (v := 0) hx d_Mo_seen_7 (by decide) ?_
  refine j_iload_n hx d_Mo_seen_8 rfl 1 rfl ?_
  refine j_callVi hx (c_Mo_isNo1 hG (up σ 111 0 0) 0 (nI c) (by decide) (by exact vkz hc9)) mo_Mo_isNo mv_Mo_isNo t_1789 (by decide) rfl (by decide) (sh_111 _ _) rfl rfl (Nat.le_of_ble_eq_true rfl) d_Mo_seen_9 ?_
  refine j_iconst (v := 1) hx d_Mo_seen_12 (by decide) ?_
  refine j_iconst (v := 0) hx d_Mo_seen_13 (by decide) ?_
  refine j_callVi hx (c_Mo_bad0 hG (up σ 111 0 0) 0 1 0 (by rfl) (by exact up_rd)) mo_Mo_bad mv_Mo_bad t_1584 (by decide) rfl (by decide) (sh_111 _ _) rfl rfl (Nat.le_of_ble_eq_true rfl) d_Mo_seen_14 ?_
  refine j_if_ne (tgt := 44) hx d_Mo_seen_17 (by decide) (fun zc17 => absurd rfl zc17) (fun _ => ?_)
  refine j_aload_n hx d_Mo_seen_20 rfl 0 rfl ?_
  refine j_iload_n hx d_Mo_seen_21 rfl 2 rfl ?_
  refine j_iconst (v := 0) hx d_Mo_seen_22 (by decide) ?_
  refine j_bipush (v := 99) hx d_Mo_seen_23 (by decide) ?_
  refine j_callSi hx (c_Mo_in1 hG (up σ 111 0 0) m 0 99 (by exact hv25)) mo_Mo_in t_1582 t_1581 (by decide) rfl rfl (Nat.le_of_ble_eq_true rfl) d_Mo_seen_25 ?_
  refine j_if_ne (tgt := 35) hx d_Mo_seen_28 (by decide) (fun _ => ?_) (fun zc28 => absurd zc28 (by decide))
  refine j_iconst (v := 0) hx d_Mo_seen_35 (by decide) ?_
  refine j_iconst (v := 2) hx d_Mo_seen_36 (by decide) ?_
  refine j_iconst (v := 1) hx d_Mo_seen_37 (by decide) ?_
  refine j_callVi hx (c_Mo_bad0 hG (up σ 111 0 0) 0 2 1 (by rfl) (by exact up_rd)) mo_Mo_bad mv_Mo_bad t_1584 (by decide) rfl (by decide) (sh_111 _ _) rfl rfl (Nat.le_of_ble_eq_true rfl) d_Mo_seen_38 ?_
  refine j_if_eq (tgt := 46) hx d_Mo_seen_41 (by decide) (fun _ => ?_) (fun zc41 => absurd (by decide) zc41)
  refine j_aload_n hx d_Mo_seen_46 rfl 0 rfl ?_
  refine j_aload_n hx d_Mo_seen_47 rfl 0 rfl ?_
  refine j_get hx ck_Mo 33 (by decide) t_1451 (by decide) (sh_111 _ _) rfl d_Mo_seen_48 ?_
  refine j_iload_n hx d_Mo_seen_51 rfl 1 rfl ?_
  refine j_iload_n hx d_Mo_seen_52 rfl 2 rfl ?_
  refine j_callVi hx (c_Mo_seenBy hG ia_122 (up σ 111 0 0) (nI c) m (by exact hw) (by exact hr)) mo_Mo_seenBy mv_Mo_seenBy t_1731 (by decide) rfl (by decide) (sh_111 _ _) rfl rfl (Nat.le_of_ble_eq_true rfl) d_Mo_seen_53 ?_
  exact j_iret hx hq rfl d_Mo_seen_56 (by first | (rfl) | fail) (by first | (rfl) | fail)

set_option maxRecDepth 20000 in
set_option maxHeartbeats 4000000 in
theorem c_Mo_seenN {l : Launch} {G : Gz} (hG : zI G) (σ : St) (c : Int32) (m : Int32) (hT9 : 0 ≤ (σ 115 0).toInt) (hbad : ¬ (¬ c < 0 ∧ c < (up σ 111 0 0) 115 0)) : MI l G y_Mo_seen prog_14_method_68_code 3 .int 4 [.ref (G.1 111), .int c, .int m] σ 0 (mrf σ 1 0) := by
  refine MI.of hG (by decide) (Nat.le_of_ble_eq_true rfl) (fun X hx hq => ?_)
  show J l G X 3 σ 0 [(0, .ref (G.1 111)), (1, .int c), (2, .int m)] []
  refine j_aload_n hx d_Mo_seen_0 rfl 0 rfl ?_
  refine j_iconst (v := 0) hx d_Mo_seen_1 (by decide) ?_
  refine j_put hx ck_Mo 0 (by decide) t_1418 (by decide) (sh_111 _ _) rfl (Nat.le_of_ble_eq_true rfl) (sh_111 _ _) d_Mo_seen_2 ?_
  refine j_aload_n hx d_Mo_seen_5 rfl 0 rfl ?_
  refine j_aload_n hx d_Mo_seen_6 rfl 0 rfl ?_
  refine j_iconst (v := 0) hx d_Mo_seen_7 (by decide) ?_
  refine j_iload_n hx d_Mo_seen_8 rfl 1 rfl ?_
  refine j_callVi hx (c_Mo_isNo0 hG (up σ 111 0 0) 0 c (by decide) (by exact hT9) (by exact hbad)) mo_Mo_isNo mv_Mo_isNo t_1789 (by decide) rfl (by decide) (sh_111 _ _) rfl rfl (Nat.le_of_ble_eq_true rfl) d_Mo_seen_9 ?_
  refine j_iconst (v := 1) hx d_Mo_seen_12 (by decide) ?_
  refine j_iconst (v := 0) hx d_Mo_seen_13 (by decide) ?_
  refine j_callVi hx (c_Mo_bad1 hG (up σ 111 0 0) 1 1 0 (by decide) (by exact up_rd) (by decide) (by decide)) mo_Mo_bad mv_Mo_bad t_1584 (by decide) rfl (by decide) (sh_111 _ _) rfl rfl (Nat.le_of_ble_eq_true rfl) d_Mo_seen_14 ?_
  refine j_if_ne (tgt := 44) hx d_Mo_seen_17 (by decide) (fun _ => ?_) (fun zc17 => absurd zc17 (by decide))
  refine j_iconst (v := 0) hx d_Mo_seen_44 (by decide) ?_
  exact j_iret hx hq rfl d_Mo_seen_45 (by first | (rfl) | fail) (by first | (rfl) | fail)

set_option maxRecDepth 20000 in
set_option maxHeartbeats 4000000 in
theorem c_Mo_seenI {l : Launch} {G : Gz} (hG : zI G) (σ : St) (c : Int32) (m : Int32) (hc9 : ¬ c < 0 ∧ c < (up σ 111 0 0) 115 0) (hbad : ¬ (0 ≤ m ∧ m ≤ 99)) : MI l G y_Mo_seen prog_14_method_68_code 3 .int 4 [.ref (G.1 111), .int c, .int m] σ 0 (mrf σ 2 1) := by
  refine MI.of hG (by decide) (Nat.le_of_ble_eq_true rfl) (fun X hx hq => ?_)
  show J l G X 3 σ 0 [(0, .ref (G.1 111)), (1, .int c), (2, .int m)] []
  refine j_aload_n hx d_Mo_seen_0 rfl 0 rfl ?_
  refine j_iconst (v := 0) hx d_Mo_seen_1 (by decide) ?_
  refine j_put hx ck_Mo 0 (by decide) t_1418 (by decide) (sh_111 _ _) rfl (Nat.le_of_ble_eq_true rfl) (sh_111 _ _) d_Mo_seen_2 ?_
  refine j_aload_n hx d_Mo_seen_5 rfl 0 rfl ?_
  refine j_aload_n hx d_Mo_seen_6 rfl 0 rfl ?_
  refine j_iconst (v := 0) hx d_Mo_seen_7 (by decide) ?_
  refine j_iload_n hx d_Mo_seen_8 rfl 1 rfl ?_
  refine j_callVi hx (c_Mo_isNo1 hG (up σ 111 0 0) 0 c (by decide) (by exact hc9)) mo_Mo_isNo mv_Mo_isNo t_1789 (by decide) rfl (by decide) (sh_111 _ _) rfl rfl (Nat.le_of_ble_eq_true rfl) d_Mo_seen_9 ?_
  refine j_iconst (v := 1) hx d_Mo_seen_12 (by decide) ?_
  refine j_iconst (v := 0) hx d_Mo_seen_13 (by decide) ?_
  refine j_callVi hx (c_Mo_bad0 hG (up σ 111 0 0) 0 1 0 (by rfl) (by exact up_rd)) mo_Mo_bad mv_Mo_bad t_1584 (by decide) rfl (by decide) (sh_111 _ _) rfl rfl (Nat.le_of_ble_eq_true rfl) d_Mo_seen_14 ?_
  refine j_if_ne (tgt := 44) hx d_Mo_seen_17 (by decide) (fun zc17 => absurd rfl zc17) (fun _ => ?_)
  refine j_aload_n hx d_Mo_seen_20 rfl 0 rfl ?_
  refine j_iload_n hx d_Mo_seen_21 rfl 2 rfl ?_
  refine j_iconst (v := 0) hx d_Mo_seen_22 (by decide) ?_
  refine j_bipush (v := 99) hx d_Mo_seen_23 (by decide) ?_
  refine j_callSi hx (c_Mo_in0 hG (up σ 111 0 0) m 0 99 (by exact hbad)) mo_Mo_in t_1582 t_1581 (by decide) rfl rfl (Nat.le_of_ble_eq_true rfl) d_Mo_seen_25 ?_
  refine j_if_ne (tgt := 35) hx d_Mo_seen_28 (by decide) (fun zc28 => absurd rfl zc28) (fun _ => ?_)
  refine j_iconst (v := 1) hx d_Mo_seen_31 (by decide) ?_
  refine j_goto (tgt := 36) hx d_Mo_seen_32 (by decide) ?_
  refine j_iconst (v := 2) hx d_Mo_seen_36 (by decide) ?_
  refine j_iconst (v := 1) hx d_Mo_seen_37 (by decide) ?_
  refine j_callVi hx (c_Mo_bad1 hG (up σ 111 0 0) 1 2 1 (by decide) (by exact up_rd) (by decide) (by decide)) mo_Mo_bad mv_Mo_bad t_1584 (by decide) rfl (by decide) (sh_111 _ _) rfl rfl (Nat.le_of_ble_eq_true rfl) d_Mo_seen_38 ?_
  refine j_if_eq (tgt := 46) hx d_Mo_seen_41 (by decide) (fun zc41 => absurd zc41 (by decide)) (fun _ => ?_)
  refine j_iconst (v := 0) hx d_Mo_seen_44 (by decide) ?_
  exact j_iret hx hq rfl d_Mo_seen_45 (by first | (rfl) | fail) (by first | (rfl) | fail)

set_option maxRecDepth 20000 in
set_option maxHeartbeats 4000000 in
theorem c_Mo_would {l : Launch} {G : Gz} (hG : zI G) (σ : St) (s : Nat) (seen : Int32) (dark : Int32) (m : Int32) (c : Int32) (ng : Int32) (fg : Int32) (hw : mW (up σ 111 0 0)) (hc9 : s < ct ((up σ 111 0 0) 115 3)) (hv25 : 0 ≤ seen ∧ seen ≤ 20) (hv35 : 0 ≤ dark ∧ dark ≤ 20) (hv46 : 0 ≤ m ∧ m ≤ 11) (hv57 : 0 ≤ c ∧ c ≤ 11) (hv69 : 0 ≤ ng ∧ ng ≤ 500) (hv79 : 0 ≤ fg ∧ fg ≤ 1) : MI l G y_Mo_would prog_14_method_69_code 8 .boolean 9 [.ref (G.1 111), .int (nI s), .int seen, .int dark, .int m, .int c, .int ng, .int fg] σ (b2 (0 < mbV (knS (up σ 111 0 0) s seen dark m c ng fg))) (mbS (knS (up σ 111 0 0) s seen dark m c ng fg)) := by
  refine MI.of hG (by decide) (Nat.le_of_ble_eq_true rfl) (fun X hx hq => ?_)
  show J l G X 8 σ 0 [(0, .ref (G.1 111)), (1, .int (nI s)), (2, .int seen), (3, .int dark), (4, .int m), (5, .int c), (6, .int ng), (7, .int fg)] []
  have hb1 : ct ((up σ 111 0 0) 115 1) ≤ 6 := hw.1.2.1
  have hb2 : ct ((up σ 111 0 0) 115 2) ≤ 3 := hw.1.2.2.1
  have hb0 : ct ((up σ 111 0 0) 115 0) ≤ 12 := hw.1.1
  have hb3 : ct ((up σ 111 0 0) 115 3) ≤ 6 := hw.1.2.2.2.1
  have hb4 : ct ((up σ 111 0 0) 115 4) ≤ 6 := hw.1.2.2.2.2
  refine j_aload_n hx d_Mo_would_0 rfl 0 rfl ?_
  refine j_iconst (v := 0) hx d_Mo_would_1 (by decide) ?_
  refine j_put hx ck_Mo 0 (by decide) t_1418 (by decide) (sh_111 _ _) rfl (Nat.le_of_ble_eq_true rfl) (sh_111 _ _) d_Mo_would_2 ?_
  refine j_aload_n hx d_Mo_would_5 rfl 0 rfl ?_
  refine j_aload_n hx d_Mo_would_6 rfl 0 rfl ?_
  refine j_iconst (v := 3) hx d_Mo_would_7 (by decide) ?_
  refine j_iload_n hx d_Mo_would_8 rfl 1 rfl ?_
  refine j_callVi hx (c_Mo_isNo1 hG (up σ 111 0 0) 3 (nI s) (by decide) (by exact vkz hc9)) mo_Mo_isNo mv_Mo_isNo t_1789 (by decide) rfl (by decide) (sh_111 _ _) rfl rfl (Nat.le_of_ble_eq_true rfl) d_Mo_would_9 ?_
  refine j_iconst (v := 1) hx d_Mo_would_12 (by decide) ?_
  refine j_iconst (v := 0) hx d_Mo_would_13 (by decide) ?_
  refine j_callVi hx (c_Mo_bad0 hG (up σ 111 0 0) 0 1 0 (by rfl) (by exact up_rd)) mo_Mo_bad mv_Mo_bad t_1584 (by decide) rfl (by decide) (sh_111 _ _) rfl rfl (Nat.le_of_ble_eq_true rfl) d_Mo_would_14 ?_
  refine j_if_ne (tgt := 98) hx d_Mo_would_17 (by decide) (fun zc17 => absurd rfl zc17) (fun _ => ?_)
  refine j_aload_n hx d_Mo_would_20 rfl 0 rfl ?_
  refine j_iload_n hx d_Mo_would_21 rfl 2 rfl ?_
  refine j_iconst (v := 0) hx d_Mo_would_22 (by decide) ?_
  refine j_bipush (v := 20) hx d_Mo_would_23 (by decide) ?_
  refine j_callSi hx (c_Mo_in1 hG (up σ 111 0 0) seen 0 20 (by exact hv25)) mo_Mo_in t_1582 t_1581 (by decide) rfl rfl (Nat.le_of_ble_eq_true rfl) d_Mo_would_25 ?_
  refine j_if_eq (tgt := 85) hx d_Mo_would_28 (by decide) (fun zc28 => absurd zc28 (by decide)) (fun _ => ?_)
  refine j_iload_n hx d_Mo_would_31 rfl 3 rfl ?_
  refine j_iconst (v := 0) hx d_Mo_would_32 (by decide) ?_
  refine j_bipush (v := 20) hx d_Mo_would_33 (by decide) ?_
  refine j_callSi hx (c_Mo_in1 hG (up σ 111 0 0) dark 0 20 (by exact hv35)) mo_Mo_in t_1582 t_1581 (by decide) rfl rfl (Nat.le_of_ble_eq_true rfl) d_Mo_would_35 ?_
  refine j_if_eq (tgt := 85) hx d_Mo_would_38 (by decide) (fun zc38 => absurd zc38 (by decide)) (fun _ => ?_)
  refine j_iload hx d_Mo_would_41 4 rfl ?_
  refine j_iconst (v := 0) hx d_Mo_would_43 (by decide) ?_
  refine j_bipush (v := 11) hx d_Mo_would_44 (by decide) ?_
  refine j_callSi hx (c_Mo_in1 hG (up σ 111 0 0) m 0 11 (by exact hv46)) mo_Mo_in t_1582 t_1581 (by decide) rfl rfl (Nat.le_of_ble_eq_true rfl) d_Mo_would_46 ?_
  refine j_if_eq (tgt := 85) hx d_Mo_would_49 (by decide) (fun zc49 => absurd zc49 (by decide)) (fun _ => ?_)
  refine j_iload hx d_Mo_would_52 5 rfl ?_
  refine j_iconst (v := 0) hx d_Mo_would_54 (by decide) ?_
  refine j_bipush (v := 11) hx d_Mo_would_55 (by decide) ?_
  refine j_callSi hx (c_Mo_in1 hG (up σ 111 0 0) c 0 11 (by exact hv57)) mo_Mo_in t_1582 t_1581 (by decide) rfl rfl (Nat.le_of_ble_eq_true rfl) d_Mo_would_57 ?_
  refine j_if_eq (tgt := 85) hx d_Mo_would_60 (by decide) (fun zc60 => absurd zc60 (by decide)) (fun _ => ?_)
  refine j_iload hx d_Mo_would_63 6 rfl ?_
  refine j_iconst (v := 0) hx d_Mo_would_65 (by decide) ?_
  refine j_sipush (v := 500) hx d_Mo_would_66 (by decide) ?_
  refine j_callSi hx (c_Mo_in1 hG (up σ 111 0 0) ng 0 500 (by exact hv69)) mo_Mo_in t_1582 t_1581 (by decide) rfl rfl (Nat.le_of_ble_eq_true rfl) d_Mo_would_69 ?_
  refine j_if_eq (tgt := 85) hx d_Mo_would_72 (by decide) (fun zc72 => absurd zc72 (by decide)) (fun _ => ?_)
  refine j_iload hx d_Mo_would_75 7 rfl ?_
  refine j_iconst (v := 0) hx d_Mo_would_77 (by decide) ?_
  refine j_iconst (v := 1) hx d_Mo_would_78 (by decide) ?_
  refine j_callSi hx (c_Mo_in1 hG (up σ 111 0 0) fg 0 1 (by exact hv79)) mo_Mo_in t_1582 t_1581 (by decide) rfl rfl (Nat.le_of_ble_eq_true rfl) d_Mo_would_79 ?_
  refine j_if_ne (tgt := 89) hx d_Mo_would_82 (by decide) (fun _ => ?_) (fun zc82 => absurd zc82 (by decide))
  refine j_iconst (v := 0) hx d_Mo_would_89 (by decide) ?_
  refine j_iconst (v := 2) hx d_Mo_would_90 (by decide) ?_
  refine j_iconst (v := 1) hx d_Mo_would_91 (by decide) ?_
  refine j_callVi hx (c_Mo_bad0 hG (up σ 111 0 0) 0 2 1 (by rfl) (by exact up_rd)) mo_Mo_bad mv_Mo_bad t_1584 (by decide) rfl (by decide) (sh_111 _ _) rfl rfl (Nat.le_of_ble_eq_true rfl) d_Mo_would_92 ?_
  refine j_if_eq (tgt := 100) hx d_Mo_would_95 (by decide) (fun _ => ?_) (fun zc95 => absurd (by decide) zc95)
  refine j_aload_n hx d_Mo_would_100 rfl 0 rfl ?_
  refine j_iload_n hx d_Mo_would_101 rfl 1 rfl ?_
  refine j_iload_n hx d_Mo_would_102 rfl 2 rfl ?_
  refine j_iload_n hx d_Mo_would_103 rfl 3 rfl ?_
  refine j_iload hx d_Mo_would_104 4 rfl ?_
  refine j_iload hx d_Mo_would_106 5 rfl ?_
  refine j_iload hx d_Mo_would_108 6 rfl ?_
  refine j_iload hx d_Mo_would_110 7 rfl ?_
  refine j_callVi hx (c_Mo_isIn hG (up σ 111 0 0) s seen dark m c ng fg (by omega) (by exact hw.2.2.2.1)) mo_Mo_isIn mv_Mo_isIn t_1752 (by decide) rfl (by decide) (sh_111 _ _) rfl rfl (Nat.le_of_ble_eq_true rfl) d_Mo_would_112 ?_
  exact j_iret hx hq (nz_b2 _) d_Mo_would_115 (by first | (rfl) | fail) (by first | (rfl) | fail)

set_option maxRecDepth 20000 in
set_option maxHeartbeats 4000000 in
theorem c_Mo_wouldN {l : Launch} {G : Gz} (hG : zI G) (σ : St) (s : Int32) (seen : Int32) (dark : Int32) (m : Int32) (c : Int32) (ng : Int32) (fg : Int32) (hT9 : 0 ≤ (σ 115 3).toInt) (hbad : ¬ (¬ s < 0 ∧ s < (up σ 111 0 0) 115 3)) : MI l G y_Mo_would prog_14_method_69_code 8 .boolean 4 [.ref (G.1 111), .int s, .int seen, .int dark, .int m, .int c, .int ng, .int fg] σ 0 (mrf σ 1 0) := by
  refine MI.of hG (by decide) (Nat.le_of_ble_eq_true rfl) (fun X hx hq => ?_)
  show J l G X 8 σ 0 [(0, .ref (G.1 111)), (1, .int s), (2, .int seen), (3, .int dark), (4, .int m), (5, .int c), (6, .int ng), (7, .int fg)] []
  refine j_aload_n hx d_Mo_would_0 rfl 0 rfl ?_
  refine j_iconst (v := 0) hx d_Mo_would_1 (by decide) ?_
  refine j_put hx ck_Mo 0 (by decide) t_1418 (by decide) (sh_111 _ _) rfl (Nat.le_of_ble_eq_true rfl) (sh_111 _ _) d_Mo_would_2 ?_
  refine j_aload_n hx d_Mo_would_5 rfl 0 rfl ?_
  refine j_aload_n hx d_Mo_would_6 rfl 0 rfl ?_
  refine j_iconst (v := 3) hx d_Mo_would_7 (by decide) ?_
  refine j_iload_n hx d_Mo_would_8 rfl 1 rfl ?_
  refine j_callVi hx (c_Mo_isNo0 hG (up σ 111 0 0) 3 s (by decide) (by exact hT9) (by exact hbad)) mo_Mo_isNo mv_Mo_isNo t_1789 (by decide) rfl (by decide) (sh_111 _ _) rfl rfl (Nat.le_of_ble_eq_true rfl) d_Mo_would_9 ?_
  refine j_iconst (v := 1) hx d_Mo_would_12 (by decide) ?_
  refine j_iconst (v := 0) hx d_Mo_would_13 (by decide) ?_
  refine j_callVi hx (c_Mo_bad1 hG (up σ 111 0 0) 1 1 0 (by decide) (by exact up_rd) (by decide) (by decide)) mo_Mo_bad mv_Mo_bad t_1584 (by decide) rfl (by decide) (sh_111 _ _) rfl rfl (Nat.le_of_ble_eq_true rfl) d_Mo_would_14 ?_
  refine j_if_ne (tgt := 98) hx d_Mo_would_17 (by decide) (fun _ => ?_) (fun zc17 => absurd zc17 (by decide))
  refine j_iconst (v := 0) hx d_Mo_would_98 (by decide) ?_
  exact j_iret hx hq rfl d_Mo_would_99 (by first | (rfl) | fail) (by first | (rfl) | fail)

set_option maxRecDepth 20000 in
set_option maxHeartbeats 4000000 in
theorem c_Mo_wouldI {l : Launch} {G : Gz} (hG : zI G) (σ : St) (s : Int32) (seen : Int32) (dark : Int32) (m : Int32) (c : Int32) (ng : Int32) (fg : Int32) (hc9 : ¬ s < 0 ∧ s < (up σ 111 0 0) 115 3) (hbad : ¬ ((0 ≤ seen ∧ seen ≤ 20) ∧ (0 ≤ dark ∧ dark ≤ 20) ∧ (0 ≤ m ∧ m ≤ 11) ∧ (0 ≤ c ∧ c ≤ 11) ∧ (0 ≤ ng ∧ ng ≤ 500) ∧ (0 ≤ fg ∧ fg ≤ 1))) : MI l G y_Mo_would prog_14_method_69_code 8 .boolean 4 [.ref (G.1 111), .int s, .int seen, .int dark, .int m, .int c, .int ng, .int fg] σ 0 (mrf σ 2 1) := by
  refine MI.of hG (by decide) (Nat.le_of_ble_eq_true rfl) (fun X hx hq => ?_)
  show J l G X 8 σ 0 [(0, .ref (G.1 111)), (1, .int s), (2, .int seen), (3, .int dark), (4, .int m), (5, .int c), (6, .int ng), (7, .int fg)] []
  refine j_aload_n hx d_Mo_would_0 rfl 0 rfl ?_
  refine j_iconst (v := 0) hx d_Mo_would_1 (by decide) ?_
  refine j_put hx ck_Mo 0 (by decide) t_1418 (by decide) (sh_111 _ _) rfl (Nat.le_of_ble_eq_true rfl) (sh_111 _ _) d_Mo_would_2 ?_
  refine j_aload_n hx d_Mo_would_5 rfl 0 rfl ?_
  refine j_aload_n hx d_Mo_would_6 rfl 0 rfl ?_
  refine j_iconst (v := 3) hx d_Mo_would_7 (by decide) ?_
  refine j_iload_n hx d_Mo_would_8 rfl 1 rfl ?_
  refine j_callVi hx (c_Mo_isNo1 hG (up σ 111 0 0) 3 s (by decide) (by exact hc9)) mo_Mo_isNo mv_Mo_isNo t_1789 (by decide) rfl (by decide) (sh_111 _ _) rfl rfl (Nat.le_of_ble_eq_true rfl) d_Mo_would_9 ?_
  refine j_iconst (v := 1) hx d_Mo_would_12 (by decide) ?_
  refine j_iconst (v := 0) hx d_Mo_would_13 (by decide) ?_
  refine j_callVi hx (c_Mo_bad0 hG (up σ 111 0 0) 0 1 0 (by rfl) (by exact up_rd)) mo_Mo_bad mv_Mo_bad t_1584 (by decide) rfl (by decide) (sh_111 _ _) rfl rfl (Nat.le_of_ble_eq_true rfl) d_Mo_would_14 ?_
  refine j_if_ne (tgt := 98) hx d_Mo_would_17 (by decide) (fun zc17 => absurd rfl zc17) (fun _ => ?_)
  refine j_aload_n hx d_Mo_would_20 rfl 0 rfl ?_
  refine j_iload_n hx d_Mo_would_21 rfl 2 rfl ?_
  refine j_iconst (v := 0) hx d_Mo_would_22 (by decide) ?_
  refine j_bipush (v := 20) hx d_Mo_would_23 (by decide) ?_
  by_cases hn25 : 0 ≤ seen ∧ seen ≤ 20
  · skip
    refine j_callSi hx (c_Mo_in1 hG (up σ 111 0 0) seen 0 20 (by exact hn25)) mo_Mo_in t_1582 t_1581 (by decide) rfl rfl (Nat.le_of_ble_eq_true rfl) d_Mo_would_25 ?_
    refine j_if_eq (tgt := 85) hx d_Mo_would_28 (by decide) (fun zc28 => absurd zc28 (by decide)) (fun _ => ?_)
    refine j_iload_n hx d_Mo_would_31 rfl 3 rfl ?_
    refine j_iconst (v := 0) hx d_Mo_would_32 (by decide) ?_
    refine j_bipush (v := 20) hx d_Mo_would_33 (by decide) ?_
    by_cases hn35 : 0 ≤ dark ∧ dark ≤ 20
    · skip
      refine j_callSi hx (c_Mo_in1 hG (up σ 111 0 0) dark 0 20 (by exact hn35)) mo_Mo_in t_1582 t_1581 (by decide) rfl rfl (Nat.le_of_ble_eq_true rfl) d_Mo_would_35 ?_
      refine j_if_eq (tgt := 85) hx d_Mo_would_38 (by decide) (fun zc38 => absurd zc38 (by decide)) (fun _ => ?_)
      refine j_iload hx d_Mo_would_41 4 rfl ?_
      refine j_iconst (v := 0) hx d_Mo_would_43 (by decide) ?_
      refine j_bipush (v := 11) hx d_Mo_would_44 (by decide) ?_
      by_cases hn46 : 0 ≤ m ∧ m ≤ 11
      · skip
        refine j_callSi hx (c_Mo_in1 hG (up σ 111 0 0) m 0 11 (by exact hn46)) mo_Mo_in t_1582 t_1581 (by decide) rfl rfl (Nat.le_of_ble_eq_true rfl) d_Mo_would_46 ?_
        refine j_if_eq (tgt := 85) hx d_Mo_would_49 (by decide) (fun zc49 => absurd zc49 (by decide)) (fun _ => ?_)
        refine j_iload hx d_Mo_would_52 5 rfl ?_
        refine j_iconst (v := 0) hx d_Mo_would_54 (by decide) ?_
        refine j_bipush (v := 11) hx d_Mo_would_55 (by decide) ?_
        by_cases hn57 : 0 ≤ c ∧ c ≤ 11
        · skip
          refine j_callSi hx (c_Mo_in1 hG (up σ 111 0 0) c 0 11 (by exact hn57)) mo_Mo_in t_1582 t_1581 (by decide) rfl rfl (Nat.le_of_ble_eq_true rfl) d_Mo_would_57 ?_
          refine j_if_eq (tgt := 85) hx d_Mo_would_60 (by decide) (fun zc60 => absurd zc60 (by decide)) (fun _ => ?_)
          refine j_iload hx d_Mo_would_63 6 rfl ?_
          refine j_iconst (v := 0) hx d_Mo_would_65 (by decide) ?_
          refine j_sipush (v := 500) hx d_Mo_would_66 (by decide) ?_
          by_cases hn69 : 0 ≤ ng ∧ ng ≤ 500
          · skip
            refine j_callSi hx (c_Mo_in1 hG (up σ 111 0 0) ng 0 500 (by exact hn69)) mo_Mo_in t_1582 t_1581 (by decide) rfl rfl (Nat.le_of_ble_eq_true rfl) d_Mo_would_69 ?_
            refine j_if_eq (tgt := 85) hx d_Mo_would_72 (by decide) (fun zc72 => absurd zc72 (by decide)) (fun _ => ?_)
            refine j_iload hx d_Mo_would_75 7 rfl ?_
            refine j_iconst (v := 0) hx d_Mo_would_77 (by decide) ?_
            refine j_iconst (v := 1) hx d_Mo_would_78 (by decide) ?_
            by_cases hn79 : 0 ≤ fg ∧ fg ≤ 1
            · skip
              exact absurd ⟨hn25, hn35, hn46, hn57, hn69, hn79⟩ hbad
            refine j_callSi hx (c_Mo_in0 hG (up σ 111 0 0) fg 0 1 (by exact hn79)) mo_Mo_in t_1582 t_1581 (by decide) rfl rfl (Nat.le_of_ble_eq_true rfl) d_Mo_would_79 ?_
            refine j_if_ne (tgt := 89) hx d_Mo_would_82 (by decide) (fun zc82 => absurd rfl zc82) (fun _ => ?_)
            refine j_iconst (v := 1) hx d_Mo_would_85 (by decide) ?_
            refine j_goto (tgt := 90) hx d_Mo_would_86 (by decide) ?_
            refine j_iconst (v := 2) hx d_Mo_would_90 (by decide) ?_
            refine j_iconst (v := 1) hx d_Mo_would_91 (by decide) ?_
            refine j_callVi hx (c_Mo_bad1 hG (up σ 111 0 0) 1 2 1 (by decide) (by exact up_rd) (by decide) (by decide)) mo_Mo_bad mv_Mo_bad t_1584 (by decide) rfl (by decide) (sh_111 _ _) rfl rfl (Nat.le_of_ble_eq_true rfl) d_Mo_would_92 ?_
            refine j_if_eq (tgt := 100) hx d_Mo_would_95 (by decide) (fun zc95 => absurd zc95 (by decide)) (fun _ => ?_)
            refine j_iconst (v := 0) hx d_Mo_would_98 (by decide) ?_
            exact j_iret hx hq rfl d_Mo_would_99 (by first | (rfl) | fail) (by first | (rfl) | fail)
          refine j_callSi hx (c_Mo_in0 hG (up σ 111 0 0) ng 0 500 (by exact hn69)) mo_Mo_in t_1582 t_1581 (by decide) rfl rfl (Nat.le_of_ble_eq_true rfl) d_Mo_would_69 ?_
          refine j_if_eq (tgt := 85) hx d_Mo_would_72 (by decide) (fun _ => ?_) (fun zc72 => absurd (by decide) zc72)
          refine j_iconst (v := 1) hx d_Mo_would_85 (by decide) ?_
          refine j_goto (tgt := 90) hx d_Mo_would_86 (by decide) ?_
          refine j_iconst (v := 2) hx d_Mo_would_90 (by decide) ?_
          refine j_iconst (v := 1) hx d_Mo_would_91 (by decide) ?_
          refine j_callVi hx (c_Mo_bad1 hG (up σ 111 0 0) 1 2 1 (by decide) (by exact up_rd) (by decide) (by decide)) mo_Mo_bad mv_Mo_bad t_1584 (by decide) rfl (by decide) (sh_111 _ _) rfl rfl (Nat.le_of_ble_eq_true rfl) d_Mo_would_92 ?_
          refine j_if_eq (tgt := 100) hx d_Mo_would_95 (by decide) (fun zc95 => absurd zc95 (by decide)) (fun _ => ?_)
          refine j_iconst (v := 0) hx d_Mo_would_98 (by decide) ?_
          exact j_iret hx hq rfl d_Mo_would_99 (by first | (rfl) | fail) (by first | (rfl) | fail)
        refine j_callSi hx (c_Mo_in0 hG (up σ 111 0 0) c 0 11 (by exact hn57)) mo_Mo_in t_1582 t_1581 (by decide) rfl rfl (Nat.le_of_ble_eq_true rfl) d_Mo_would_57 ?_
        refine j_if_eq (tgt := 85) hx d_Mo_would_60 (by decide) (fun _ => ?_) (fun zc60 => absurd (by decide) zc60)
        refine j_iconst (v := 1) hx d_Mo_would_85 (by decide) ?_
        refine j_goto (tgt := 90) hx d_Mo_would_86 (by decide) ?_
        refine j_iconst (v := 2) hx d_Mo_would_90 (by decide) ?_
        refine j_iconst (v := 1) hx d_Mo_would_91 (by decide) ?_
        refine j_callVi hx (c_Mo_bad1 hG (up σ 111 0 0) 1 2 1 (by decide) (by exact up_rd) (by decide) (by decide)) mo_Mo_bad mv_Mo_bad t_1584 (by decide) rfl (by decide) (sh_111 _ _) rfl rfl (Nat.le_of_ble_eq_true rfl) d_Mo_would_92 ?_
        refine j_if_eq (tgt := 100) hx d_Mo_would_95 (by decide) (fun zc95 => absurd zc95 (by decide)) (fun _ => ?_)
        refine j_iconst (v := 0) hx d_Mo_would_98 (by decide) ?_
        exact j_iret hx hq rfl d_Mo_would_99 (by first | (rfl) | fail) (by first | (rfl) | fail)
      refine j_callSi hx (c_Mo_in0 hG (up σ 111 0 0) m 0 11 (by exact hn46)) mo_Mo_in t_1582 t_1581 (by decide) rfl rfl (Nat.le_of_ble_eq_true rfl) d_Mo_would_46 ?_
      refine j_if_eq (tgt := 85) hx d_Mo_would_49 (by decide) (fun _ => ?_) (fun zc49 => absurd (by decide) zc49)
      refine j_iconst (v := 1) hx d_Mo_would_85 (by decide) ?_
      refine j_goto (tgt := 90) hx d_Mo_would_86 (by decide) ?_
      refine j_iconst (v := 2) hx d_Mo_would_90 (by decide) ?_
      refine j_iconst (v := 1) hx d_Mo_would_91 (by decide) ?_
      refine j_callVi hx (c_Mo_bad1 hG (up σ 111 0 0) 1 2 1 (by decide) (by exact up_rd) (by decide) (by decide)) mo_Mo_bad mv_Mo_bad t_1584 (by decide) rfl (by decide) (sh_111 _ _) rfl rfl (Nat.le_of_ble_eq_true rfl) d_Mo_would_92 ?_
      refine j_if_eq (tgt := 100) hx d_Mo_would_95 (by decide) (fun zc95 => absurd zc95 (by decide)) (fun _ => ?_)
      refine j_iconst (v := 0) hx d_Mo_would_98 (by decide) ?_
      exact j_iret hx hq rfl d_Mo_would_99 (by first | (rfl) | fail) (by first | (rfl) | fail)
    refine j_callSi hx (c_Mo_in0 hG (up σ 111 0 0) dark 0 20 (by exact hn35)) mo_Mo_in t_1582 t_1581 (by decide) rfl rfl (Nat.le_of_ble_eq_true rfl) d_Mo_would_35 ?_
    refine j_if_eq (tgt := 85) hx d_Mo_would_38 (by decide) (fun _ => ?_) (fun zc38 => absurd (by decide) zc38)
    refine j_iconst (v := 1) hx d_Mo_would_85 (by decide) ?_
    refine j_goto (tgt := 90) hx d_Mo_would_86 (by decide) ?_
    refine j_iconst (v := 2) hx d_Mo_would_90 (by decide) ?_
    refine j_iconst (v := 1) hx d_Mo_would_91 (by decide) ?_
    refine j_callVi hx (c_Mo_bad1 hG (up σ 111 0 0) 1 2 1 (by decide) (by exact up_rd) (by decide) (by decide)) mo_Mo_bad mv_Mo_bad t_1584 (by decide) rfl (by decide) (sh_111 _ _) rfl rfl (Nat.le_of_ble_eq_true rfl) d_Mo_would_92 ?_
    refine j_if_eq (tgt := 100) hx d_Mo_would_95 (by decide) (fun zc95 => absurd zc95 (by decide)) (fun _ => ?_)
    refine j_iconst (v := 0) hx d_Mo_would_98 (by decide) ?_
    exact j_iret hx hq rfl d_Mo_would_99 (by first | (rfl) | fail) (by first | (rfl) | fail)
  refine j_callSi hx (c_Mo_in0 hG (up σ 111 0 0) seen 0 20 (by exact hn25)) mo_Mo_in t_1582 t_1581 (by decide) rfl rfl (Nat.le_of_ble_eq_true rfl) d_Mo_would_25 ?_
  refine j_if_eq (tgt := 85) hx d_Mo_would_28 (by decide) (fun _ => ?_) (fun zc28 => absurd (by decide) zc28)
  refine j_iconst (v := 1) hx d_Mo_would_85 (by decide) ?_
  refine j_goto (tgt := 90) hx d_Mo_would_86 (by decide) ?_
  refine j_iconst (v := 2) hx d_Mo_would_90 (by decide) ?_
  refine j_iconst (v := 1) hx d_Mo_would_91 (by decide) ?_
  refine j_callVi hx (c_Mo_bad1 hG (up σ 111 0 0) 1 2 1 (by decide) (by exact up_rd) (by decide) (by decide)) mo_Mo_bad mv_Mo_bad t_1584 (by decide) rfl (by decide) (sh_111 _ _) rfl rfl (Nat.le_of_ble_eq_true rfl) d_Mo_would_92 ?_
  refine j_if_eq (tgt := 100) hx d_Mo_would_95 (by decide) (fun zc95 => absurd zc95 (by decide)) (fun _ => ?_)
  refine j_iconst (v := 0) hx d_Mo_would_98 (by decide) ?_
  exact j_iret hx hq rfl d_Mo_would_99 (by first | (rfl) | fail) (by first | (rfl) | fail)

set_option maxRecDepth 20000 in
set_option maxHeartbeats 4000000 in
theorem c_Mo_tried {l : Launch} {G : Gz} (hG : zI G) (σ : St) (s : Nat) (w : Int32) (hw : mW (up σ 111 0 0)) (hr : rW (up σ 111 0 0) 122) (hc9 : s < ct ((up σ 111 0 0) 115 3)) (hv24 : 0 ≤ w ∧ w ≤ 4) : MI l G y_Mo_tried prog_14_method_70_code 3 .int 9 [.ref (G.1 111), .int (nI s), .int w] σ (mtr (up σ 111 0 0) s w) (trF (up σ 111 0 0) 122 s) := by
  refine MI.of hG (by decide) (Nat.le_of_ble_eq_true rfl) (fun X hx hq => ?_)
  show J l G X 3 σ 0 [(0, .ref (G.1 111)), (1, .int (nI s)), (2, .int w)] []
  have hb1 : ct ((up σ 111 0 0) 115 1) ≤ 6 := hw.1.2.1
  have hb2 : ct ((up σ 111 0 0) 115 2) ≤ 3 := hw.1.2.2.1
  have hb0 : ct ((up σ 111 0 0) 115 0) ≤ 12 := hw.1.1
  have hb3 : ct ((up σ 111 0 0) 115 3) ≤ 6 := hw.1.2.2.2.1
  have hb4 : ct ((up σ 111 0 0) 115 4) ≤ 6 := hw.1.2.2.2.2
  refine j_aload_n hx d_Mo_tried_0 rfl 0 rfl ?_
  refine j_iconst (v := 0) hx d_Mo_tried_1 (by decide) ?_
  refine j_put hx ck_Mo 0 (by decide) t_1418 (by decide) (sh_111 _ _) rfl (Nat.le_of_ble_eq_true rfl) (sh_111 _ _) d_Mo_tried_2 ?_
  refine j_aload_n hx d_Mo_tried_5 rfl 0 rfl ?_
  refine j_aload_n hx d_Mo_tried_6 rfl 0 rfl ?_
  refine j_iconst (v := 3) hx d_Mo_tried_7 (by decide) ?_
  refine j_iload_n hx d_Mo_tried_8 rfl 1 rfl ?_
  refine j_callVi hx (c_Mo_isNo1 hG (up σ 111 0 0) 3 (nI s) (by decide) (by exact vkz hc9)) mo_Mo_isNo mv_Mo_isNo t_1789 (by decide) rfl (by decide) (sh_111 _ _) rfl rfl (Nat.le_of_ble_eq_true rfl) d_Mo_tried_9 ?_
  refine j_iconst (v := 1) hx d_Mo_tried_12 (by decide) ?_
  refine j_iconst (v := 0) hx d_Mo_tried_13 (by decide) ?_
  refine j_callVi hx (c_Mo_bad0 hG (up σ 111 0 0) 0 1 0 (by rfl) (by exact up_rd)) mo_Mo_bad mv_Mo_bad t_1584 (by decide) rfl (by decide) (sh_111 _ _) rfl rfl (Nat.le_of_ble_eq_true rfl) d_Mo_tried_14 ?_
  refine j_if_ne (tgt := 43) hx d_Mo_tried_17 (by decide) (fun zc17 => absurd rfl zc17) (fun _ => ?_)
  refine j_aload_n hx d_Mo_tried_20 rfl 0 rfl ?_
  refine j_iload_n hx d_Mo_tried_21 rfl 2 rfl ?_
  refine j_iconst (v := 0) hx d_Mo_tried_22 (by decide) ?_
  refine j_iconst (v := 4) hx d_Mo_tried_23 (by decide) ?_
  refine j_callSi hx (c_Mo_in1 hG (up σ 111 0 0) w 0 4 (by exact hv24)) mo_Mo_in t_1582 t_1581 (by decide) rfl rfl (Nat.le_of_ble_eq_true rfl) d_Mo_tried_24 ?_
  refine j_if_ne (tgt := 34) hx d_Mo_tried_27 (by decide) (fun _ => ?_) (fun zc27 => absurd zc27 (by decide))
  refine j_iconst (v := 0) hx d_Mo_tried_34 (by decide) ?_
  refine j_iconst (v := 2) hx d_Mo_tried_35 (by decide) ?_
  refine j_iconst (v := 1) hx d_Mo_tried_36 (by decide) ?_
  refine j_callVi hx (c_Mo_bad0 hG (up σ 111 0 0) 0 2 1 (by rfl) (by exact up_rd)) mo_Mo_bad mv_Mo_bad t_1584 (by decide) rfl (by decide) (sh_111 _ _) rfl rfl (Nat.le_of_ble_eq_true rfl) d_Mo_tried_37 ?_
  refine j_if_eq (tgt := 45) hx d_Mo_tried_40 (by decide) (fun _ => ?_) (fun zc40 => absurd (by decide) zc40)
  refine j_aload_n hx d_Mo_tried_45 rfl 0 rfl ?_
  refine j_aload_n hx d_Mo_tried_46 rfl 0 rfl ?_
  refine j_get hx ck_Mo 33 (by decide) t_1451 (by decide) (sh_111 _ _) rfl d_Mo_tried_47 ?_
  refine j_iload_n hx d_Mo_tried_50 rfl 1 rfl ?_
  refine j_callVv hx (c_Mo_tries hG ia_122 (up σ 111 0 0) s (by omega) (by exact hw) (by exact hr) (by decide) (by decide) (by decide)) mo_Mo_tries mv_Mo_tries t_1727 (by decide) rfl (by decide) (sh_111 _ _) rfl rfl (Nat.le_of_ble_eq_true rfl) d_Mo_tried_51 ?_
  refine j_iload_n hx d_Mo_tried_54 rfl 2 rfl ?_
  refine J.sw (x := w) 0 (fun zc55_0 => ?_) (fun zc55_0 => ?_)
  · skip
    refine j_tableIn (x := w) (tgt := 84) (off := 29) hx d_Mo_tried_55 (by rw [zc55_0]; decide) (by rw [zc55_0]; decide) (by rw [zc55_0]; decide) (by decide) ?_
    refine j_aload_n hx d_Mo_tried_84 rfl 0 rfl ?_
    refine j_get hx ck_Mo 42 (by decide) t_1460 (by decide) (sh_111 _ _) rfl d_Mo_tried_85 ?_
    exact j_iret hx hq rfl d_Mo_tried_88 (by first | (unfold mtr; exact (if_pos zc55_0).symm) | fail) (by first | (rfl) | fail)
  refine J.sw (x := w) 1 (fun zc55_1 => ?_) (fun zc55_1 => ?_)
  · skip
    refine j_tableIn (x := w) (tgt := 89) (off := 34) hx d_Mo_tried_55 (by rw [zc55_1]; decide) (by rw [zc55_1]; decide) (by rw [zc55_1]; decide) (by decide) ?_
    refine j_aload_n hx d_Mo_tried_89 rfl 0 rfl ?_
    refine j_get hx ck_Mo 43 (by decide) t_1461 (by decide) (sh_111 _ _) rfl d_Mo_tried_90 ?_
    exact j_iret hx hq rfl d_Mo_tried_93 (by first | (unfold mtr; rw [if_neg zc55_0]; exact (if_pos zc55_1).symm) | fail) (by first | (rfl) | fail)
  refine J.sw (x := w) 2 (fun zc55_2 => ?_) (fun zc55_2 => ?_)
  · skip
    refine j_tableIn (x := w) (tgt := 94) (off := 39) hx d_Mo_tried_55 (by rw [zc55_2]; decide) (by rw [zc55_2]; decide) (by rw [zc55_2]; decide) (by decide) ?_
    refine j_aload_n hx d_Mo_tried_94 rfl 0 rfl ?_
    refine j_iload_n hx d_Mo_tried_95 rfl 1 rfl ?_
    refine j_callVi hx (c_Mo_aliveOf hG (trF (up σ 111 0 0) 122 s) s (by omega) (by exact trF_sa (by exact hw.1.1))) mo_Mo_aliveOf mv_Mo_aliveOf t_1770 (by decide) rfl (by decide) (sh_111 _ _) rfl rfl (Nat.le_of_ble_eq_true rfl) d_Mo_tried_96 ?_
    exact j_iret hx hq rfl d_Mo_tried_99 (by first | (unfold mtr; rw [if_neg zc55_0, if_neg zc55_1]; exact (if_pos zc55_2).symm) | fail) (by first | (rfl) | fail)
  refine J.sw (x := w) 3 (fun zc55_3 => ?_) (fun zc55_3 => ?_)
  · skip
    refine j_tableIn (x := w) (tgt := 100) (off := 45) hx d_Mo_tried_55 (by rw [zc55_3]; decide) (by rw [zc55_3]; decide) (by rw [zc55_3]; decide) (by decide) ?_
    refine j_aload_n hx d_Mo_tried_100 rfl 0 rfl ?_
    refine j_iload_n hx d_Mo_tried_101 rfl 1 rfl ?_
    refine j_callVi hx (c_Mo_parishBy hG (trF (up σ 111 0 0) 122 s) s (by omega) (by exact trF_sa (by exact hw.1.1))) mo_Mo_parishBy mv_Mo_parishBy t_1817 (by decide) rfl (by decide) (sh_111 _ _) rfl rfl (Nat.le_of_ble_eq_true rfl) d_Mo_tried_102 ?_
    exact j_iret hx hq rfl d_Mo_tried_105 (by first | (unfold mtr; rw [if_neg zc55_0, if_neg zc55_1, if_neg zc55_2]; exact (if_pos zc55_3).symm) | fail) (by first | (rfl) | fail)
  refine j_tableOut (x := w) (tgt := 106) hx d_Mo_tried_55 (by have h0 := sw_ne zc55_0; have h1 := sw_ne zc55_1; have h2 := sw_ne zc55_2; have h3 := sw_ne zc55_3; have q0 : Int32.toInt 0 = 0 := rfl; have q1 : Int32.toInt 1 = 1 := rfl; have q2 : Int32.toInt 2 = 2 := rfl; have q3 : Int32.toInt 3 = 3 := rfl; omega) (by decide) ?_
  refine j_aload_n hx d_Mo_tried_106 rfl 0 rfl ?_
  refine j_get hx ck_Mo 44 (by decide) t_1462 (by decide) (sh_111 _ _) rfl d_Mo_tried_107 ?_
  exact j_iret hx hq rfl d_Mo_tried_110 (by first | (unfold mtr; rw [if_neg zc55_0, if_neg zc55_1, if_neg zc55_2, if_neg zc55_3]) | fail) (by first | (rfl) | fail)

set_option maxRecDepth 20000 in
set_option maxHeartbeats 4000000 in
theorem c_Mo_triedN {l : Launch} {G : Gz} (hG : zI G) (σ : St) (s : Int32) (w : Int32) (hT9 : 0 ≤ (σ 115 3).toInt) (hbad : ¬ (¬ s < 0 ∧ s < (up σ 111 0 0) 115 3)) : MI l G y_Mo_tried prog_14_method_70_code 3 .int 4 [.ref (G.1 111), .int s, .int w] σ 0 (mrf σ 1 0) := by
  refine MI.of hG (by decide) (Nat.le_of_ble_eq_true rfl) (fun X hx hq => ?_)
  show J l G X 3 σ 0 [(0, .ref (G.1 111)), (1, .int s), (2, .int w)] []
  refine j_aload_n hx d_Mo_tried_0 rfl 0 rfl ?_
  refine j_iconst (v := 0) hx d_Mo_tried_1 (by decide) ?_
  refine j_put hx ck_Mo 0 (by decide) t_1418 (by decide) (sh_111 _ _) rfl (Nat.le_of_ble_eq_true rfl) (sh_111 _ _) d_Mo_tried_2 ?_
  refine j_aload_n hx d_Mo_tried_5 rfl 0 rfl ?_
  refine j_aload_n hx d_Mo_tried_6 rfl 0 rfl ?_
  refine j_iconst (v := 3) hx d_Mo_tried_7 (by decide) ?_
  refine j_iload_n hx d_Mo_tried_8 rfl 1 rfl ?_
  refine j_callVi hx (c_Mo_isNo0 hG (up σ 111 0 0) 3 s (by decide) (by exact hT9) (by exact hbad)) mo_Mo_isNo mv_Mo_isNo t_1789 (by decide) rfl (by decide) (sh_111 _ _) rfl rfl (Nat.le_of_ble_eq_true rfl) d_Mo_tried_9 ?_
  refine j_iconst (v := 1) hx d_Mo_tried_12 (by decide) ?_
  refine j_iconst (v := 0) hx d_Mo_tried_13 (by decide) ?_
  refine j_callVi hx (c_Mo_bad1 hG (up σ 111 0 0) 1 1 0 (by decide) (by exact up_rd) (by decide) (by decide)) mo_Mo_bad mv_Mo_bad t_1584 (by decide) rfl (by decide) (sh_111 _ _) rfl rfl (Nat.le_of_ble_eq_true rfl) d_Mo_tried_14 ?_
  refine j_if_ne (tgt := 43) hx d_Mo_tried_17 (by decide) (fun _ => ?_) (fun zc17 => absurd zc17 (by decide))
  refine j_iconst (v := 0) hx d_Mo_tried_43 (by decide) ?_
  exact j_iret hx hq rfl d_Mo_tried_44 (by first | (rfl) | fail) (by first | (rfl) | fail)

set_option maxRecDepth 20000 in
set_option maxHeartbeats 4000000 in
theorem c_Mo_triedI {l : Launch} {G : Gz} (hG : zI G) (σ : St) (s : Int32) (w : Int32) (hc9 : ¬ s < 0 ∧ s < (up σ 111 0 0) 115 3) (hbad : ¬ (0 ≤ w ∧ w ≤ 4)) : MI l G y_Mo_tried prog_14_method_70_code 3 .int 4 [.ref (G.1 111), .int s, .int w] σ 0 (mrf σ 2 1) := by
  refine MI.of hG (by decide) (Nat.le_of_ble_eq_true rfl) (fun X hx hq => ?_)
  show J l G X 3 σ 0 [(0, .ref (G.1 111)), (1, .int s), (2, .int w)] []
  refine j_aload_n hx d_Mo_tried_0 rfl 0 rfl ?_
  refine j_iconst (v := 0) hx d_Mo_tried_1 (by decide) ?_
  refine j_put hx ck_Mo 0 (by decide) t_1418 (by decide) (sh_111 _ _) rfl (Nat.le_of_ble_eq_true rfl) (sh_111 _ _) d_Mo_tried_2 ?_
  refine j_aload_n hx d_Mo_tried_5 rfl 0 rfl ?_
  refine j_aload_n hx d_Mo_tried_6 rfl 0 rfl ?_
  refine j_iconst (v := 3) hx d_Mo_tried_7 (by decide) ?_
  refine j_iload_n hx d_Mo_tried_8 rfl 1 rfl ?_
  refine j_callVi hx (c_Mo_isNo1 hG (up σ 111 0 0) 3 s (by decide) (by exact hc9)) mo_Mo_isNo mv_Mo_isNo t_1789 (by decide) rfl (by decide) (sh_111 _ _) rfl rfl (Nat.le_of_ble_eq_true rfl) d_Mo_tried_9 ?_
  refine j_iconst (v := 1) hx d_Mo_tried_12 (by decide) ?_
  refine j_iconst (v := 0) hx d_Mo_tried_13 (by decide) ?_
  refine j_callVi hx (c_Mo_bad0 hG (up σ 111 0 0) 0 1 0 (by rfl) (by exact up_rd)) mo_Mo_bad mv_Mo_bad t_1584 (by decide) rfl (by decide) (sh_111 _ _) rfl rfl (Nat.le_of_ble_eq_true rfl) d_Mo_tried_14 ?_
  refine j_if_ne (tgt := 43) hx d_Mo_tried_17 (by decide) (fun zc17 => absurd rfl zc17) (fun _ => ?_)
  refine j_aload_n hx d_Mo_tried_20 rfl 0 rfl ?_
  refine j_iload_n hx d_Mo_tried_21 rfl 2 rfl ?_
  refine j_iconst (v := 0) hx d_Mo_tried_22 (by decide) ?_
  refine j_iconst (v := 4) hx d_Mo_tried_23 (by decide) ?_
  refine j_callSi hx (c_Mo_in0 hG (up σ 111 0 0) w 0 4 (by exact hbad)) mo_Mo_in t_1582 t_1581 (by decide) rfl rfl (Nat.le_of_ble_eq_true rfl) d_Mo_tried_24 ?_
  refine j_if_ne (tgt := 34) hx d_Mo_tried_27 (by decide) (fun zc27 => absurd rfl zc27) (fun _ => ?_)
  refine j_iconst (v := 1) hx d_Mo_tried_30 (by decide) ?_
  refine j_goto (tgt := 35) hx d_Mo_tried_31 (by decide) ?_
  refine j_iconst (v := 2) hx d_Mo_tried_35 (by decide) ?_
  refine j_iconst (v := 1) hx d_Mo_tried_36 (by decide) ?_
  refine j_callVi hx (c_Mo_bad1 hG (up σ 111 0 0) 1 2 1 (by decide) (by exact up_rd) (by decide) (by decide)) mo_Mo_bad mv_Mo_bad t_1584 (by decide) rfl (by decide) (sh_111 _ _) rfl rfl (Nat.le_of_ble_eq_true rfl) d_Mo_tried_37 ?_
  refine j_if_eq (tgt := 45) hx d_Mo_tried_40 (by decide) (fun zc40 => absurd zc40 (by decide)) (fun _ => ?_)
  refine j_iconst (v := 0) hx d_Mo_tried_43 (by decide) ?_
  exact j_iret hx hq rfl d_Mo_tried_44 (by first | (rfl) | fail) (by first | (rfl) | fail)

set_option maxRecDepth 20000 in
set_option maxHeartbeats 4000000 in
theorem c_Mo_safe {l : Launch} {G : Gz} (hG : zI G) (σ : St) (hw : mW (up σ 111 0 0)) (hr : rW (up σ 111 0 0) 122) : MI l G y_Mo_safe prog_14_method_72_code 1 .int 9 [.ref (G.1 111)] σ ((msf (up σ 111 0 0) 122 (ct ((up σ 111 0 0) 115 3))).1) ((msf (up σ 111 0 0) 122 (ct ((up σ 111 0 0) 115 3))).2) := by
  refine MI.of hG (by decide) (Nat.le_of_ble_eq_true rfl) (fun X hx hq => ?_)
  show J l G X 1 σ 0 [(0, .ref (G.1 111))] []
  refine j_aload_n hx d_Mo_safe_0 rfl 0 rfl ?_
  refine j_iconst (v := 0) hx d_Mo_safe_1 (by decide) ?_
  refine j_put hx ck_Mo 0 (by decide) t_1418 (by decide) (sh_111 _ _) rfl (Nat.le_of_ble_eq_true rfl) (sh_111 _ _) d_Mo_safe_2 ?_
  refine j_aload_n hx d_Mo_safe_5 rfl 0 rfl ?_
  refine j_aload_n hx d_Mo_safe_6 rfl 0 rfl ?_
  refine j_get hx ck_Mo 33 (by decide) t_1451 (by decide) (sh_111 _ _) rfl d_Mo_safe_7 ?_
  refine j_callVi hx (c_Mo_safeBy hG ia_122 (up σ 111 0 0) (by exact hw) (by exact hr) (by decide) (by decide) (by decide)) mo_Mo_safeBy mv_Mo_safeBy t_1825 (by decide) rfl (by decide) (sh_111 _ _) rfl rfl (Nat.le_of_ble_eq_true rfl) d_Mo_safe_10 ?_
  exact j_iret hx hq rfl d_Mo_safe_13 (by first | (rfl) | fail) (by first | (rfl) | fail)

set_option maxRecDepth 20000 in
set_option maxHeartbeats 4000000 in
theorem c_Mo_fits {l : Launch} {G : Gz} (hG : zI G) (σ : St) (w : Int32) (hl9 : ct ((up σ 111 0 0) 111 37) ≤ 12) (hv9 : 0 ≤ w ∧ w ≤ 1) : MI l G y_Mo_fits prog_14_method_78_code 6 .int 9 [.ref (G.1 111), .int w] σ (mfs (up σ 111 0 0) w) (t0 σ) := by
  refine MI.of hG (by decide) (Nat.le_of_ble_eq_true rfl) (fun X hx hq => ?_)
  show J l G X 6 σ 0 [(0, .ref (G.1 111)), (1, .int w)] []
  refine j_aload_n hx d_Mo_fits_0 rfl 0 rfl ?_
  refine j_iconst (v := 0) hx d_Mo_fits_1 (by decide) ?_
  refine j_put hx ck_Mo 0 (by decide) t_1418 (by decide) (sh_111 _ _) rfl (Nat.le_of_ble_eq_true rfl) (sh_111 _ _) d_Mo_fits_2 ?_
  refine j_aload_n hx d_Mo_fits_5 rfl 0 rfl ?_
  refine j_iload_n hx d_Mo_fits_6 rfl 1 rfl ?_
  refine j_iconst (v := 0) hx d_Mo_fits_7 (by decide) ?_
  refine j_iconst (v := 1) hx d_Mo_fits_8 (by decide) ?_
  refine j_callSi hx (c_Mo_in1 hG (up σ 111 0 0) w 0 1 (by exact hv9)) mo_Mo_in t_1582 t_1581 (by decide) rfl rfl (Nat.le_of_ble_eq_true rfl) d_Mo_fits_9 ?_
  refine j_if_ne (tgt := 19) hx d_Mo_fits_12 (by decide) (fun _ => ?_) (fun zc12 => absurd zc12 (by decide))
  refine j_iconst (v := 0) hx d_Mo_fits_19 (by decide) ?_
  refine j_iconst (v := 1) hx d_Mo_fits_20 (by decide) ?_
  refine j_iconst (v := 1) hx d_Mo_fits_21 (by decide) ?_
  refine j_callVi hx (c_Mo_bad0 hG (up σ 111 0 0) 0 1 1 (by rfl) (by exact up_rd)) mo_Mo_bad mv_Mo_bad t_1584 (by decide) rfl (by decide) (sh_111 _ _) rfl rfl (Nat.le_of_ble_eq_true rfl) d_Mo_fits_22 ?_
  refine j_if_eq (tgt := 30) hx d_Mo_fits_25 (by decide) (fun _ => ?_) (fun zc25 => absurd (by decide) zc25)
  refine j_iconst (v := 0) hx d_Mo_fits_30 (by decide) ?_
  refine j_istore_n hx [(2, .int 0), (0, .ref (G.1 111)), (1, .int w)] d_Mo_fits_31 rfl (by decide) rfl ?_
  refine j_iconst (v := (-1)) hx d_Mo_fits_32 (by decide) ?_
  refine j_istore_n hx [(3, .int ((-1))), (2, .int 0), (0, .ref (G.1 111)), (1, .int w)] d_Mo_fits_33 rfl (by decide) rfl ?_
  refine j_iconst (v := 1) hx d_Mo_fits_34 (by decide) ?_
  refine j_istore hx [(4, .int 1), (3, .int ((-1))), (2, .int 0), (0, .ref (G.1 111)), (1, .int w)] d_Mo_fits_35 (by decide) rfl ?_
  have hl37 : ∀ (N9 : Nat) (i : Nat), (i ≤ 9) → 9 - i = N9 → J l G X 6 (up σ 111 0 0) 37 [(0, .ref (G.1 111)), (1, .int w), (2, .int ((mft (up σ 111 0 0) i).1)), (3, .int ((mft (up σ 111 0 0) i).2)), (4, .int (nI (i + 1)))] [] := by
    intro N9
    induction N9 using Nat.strongRecOn with
    | _ N9 ih37 =>
      intro i hi_i hm37
      refine j_iload hx d_Mo_fits_37 4 rfl ?_
      refine j_bipush (v := 9) hx d_Mo_fits_39 (by decide) ?_
      refine j_icmp_gt (tgt := 100) hx d_Mo_fits_41 (by decide) (fun zc41 => ?_) (fun zc41 => ?_)
      · skip
        obtain rfl := gt_end (n := 9) hi_i (by decide) zc41
        refine j_iload_n hx d_Mo_fits_100 rfl 1 rfl ?_
        refine j_if_ne (tgt := 108) hx d_Mo_fits_101 (by decide) (fun zc101 => ?_) (fun zc101 => ?_)
        · skip
          refine j_iload_n hx d_Mo_fits_108 rfl 3 rfl ?_
          exact j_iret hx hq rfl d_Mo_fits_109 (by first | (unfold mfs; first | exact (if_pos zc101).symm | exact (if_neg zc101).symm) | fail) (by first | (rfl) | fail)
        · skip
          refine j_iload_n hx d_Mo_fits_104 rfl 2 rfl ?_
          refine j_goto (tgt := 109) hx d_Mo_fits_105 (by decide) ?_
          exact j_iret hx hq rfl d_Mo_fits_109 (by first | (unfold mfs; first | exact (if_pos zc101).symm | exact (if_neg zc101).symm) | fail) (by first | (rfl) | fail)
      · skip
        have hlt37 := gt_go (n := 9) hi_i (by decide) zc41
        refine j_iconst (v := 0) hx d_Mo_fits_44 (by decide) ?_
        refine j_istore hx [(5, .int 0), (0, .ref (G.1 111)), (1, .int w), (2, .int ((mft (up σ 111 0 0) i).1)), (3, .int ((mft (up σ 111 0 0) i).2)), (4, .int (nI (i + 1)))] d_Mo_fits_45 (by decide) rfl ?_
        have hl47 : ∀ (N9 : Nat) (j : Nat), (j ≤ (i + 1)) → (i + 1) - j = N9 → J l G X 6 (up σ 111 0 0) 47 [(0, .ref (G.1 111)), (1, .int w), (2, .int ((mfA (up σ 111 0 0) i j (mft (up σ 111 0 0) i)).1)), (3, .int ((mfA (up σ 111 0 0) i j (mft (up σ 111 0 0) i)).2)), (4, .int (nI (i + 1))), (5, .int (nI j))] [] := by
          intro N9
          induction N9 using Nat.strongRecOn with
          | _ N9 ih47 =>
            intro j hi_j hm47
            refine j_iload hx d_Mo_fits_47 5 rfl ?_
            refine j_iload hx d_Mo_fits_49 4 rfl ?_
            refine j_icmp_ge (tgt := 94) hx d_Mo_fits_51 (by decide) (fun zc51 => ?_) (fun zc51 => ?_)
            · skip
              obtain rfl := nt_end (n := i + 1) hi_j (by omega) zc51
              refine j_iinc hx [(4, .int ((nI (i + 1)) + 1)), (0, .ref (G.1 111)), (1, .int w), (2, .int ((mfA (up σ 111 0 0) i (i + 1) (mft (up σ 111 0 0) i)).1)), (3, .int ((mfA (up σ 111 0 0) i (i + 1) (mft (up σ 111 0 0) i)).2)), (5, .int (nI (i + 1)))] d_Mo_fits_94 4 rfl rfl (by decide) rfl ?_
              refine j_goto (tgt := 37) hx d_Mo_fits_97 (by decide) ?_
              refine J.lsub (ls' := [(0, .ref (G.1 111)), (1, .int w), (2, .int ((mfA (up σ 111 0 0) i (i + 1) (mft (up σ 111 0 0) i)).1)), (3, .int ((mfA (up σ 111 0 0) i (i + 1) (mft (up σ 111 0 0) i)).2)), (4, .int ((nI (i + 1)) + 1))]) [1, 2, 3, 4, 0] rfl ?_
              refine J.to ?_ ?_ (ih37 _ ?_ (i + 1) hlt37 rfl)
              · first | (first | rfl | (simp [zc41, zc51]; done)) | fail
              · first | (simp only [nI_s]; rfl) | fail
              · first | (omega) | fail
            · skip
              have hlt47 := nt_go (n := i + 1) hi_j (by omega) zc51
              refine j_aload_n hx d_Mo_fits_54 rfl 0 rfl ?_
              refine j_iload hx d_Mo_fits_55 4 rfl ?_
              refine j_iload hx d_Mo_fits_57 5 rfl ?_
              refine j_callVi hx (c_Mo_isLogged hG (up σ 111 0 0) (nI (i + 1)) (nI j) (by exact hl9) (by show ¬ nI (i + 1) = nI 0; rw [znI_eq (by omega) (by omega)]; omega)) mo_Mo_isLogged mv_Mo_isLogged t_1848 (by decide) rfl (by decide) (sh_111 _ _) rfl rfl (Nat.le_of_ble_eq_true rfl) d_Mo_fits_59 ?_
              refine j_if_ne (tgt := 68) hx d_Mo_fits_62 (by decide) (fun zc62 => ?_) (fun zc62 => ?_)
              · skip
                refine j_iload_n hx d_Mo_fits_68 rfl 2 rfl ?_
                refine j_if_ne (tgt := 83) hx d_Mo_fits_69 (by decide) (fun zc69 => ?_) (fun zc69 => ?_)
                · skip
                  refine j_iload_n hx d_Mo_fits_83 rfl 3 rfl ?_
                  refine j_istore_n hx [(3, .int ((mfA (up σ 111 0 0) i j (mft (up σ 111 0 0) i)).2)), (0, .ref (G.1 111)), (1, .int w), (2, .int ((mfA (up σ 111 0 0) i j (mft (up σ 111 0 0) i)).1)), (4, .int (nI (i + 1))), (5, .int (nI j))] d_Mo_fits_84 rfl (by decide) rfl ?_
                  refine j_iinc hx [(2, .int (((mfA (up σ 111 0 0) i j (mft (up σ 111 0 0) i)).1) + 1)), (3, .int ((mfA (up σ 111 0 0) i j (mft (up σ 111 0 0) i)).2)), (0, .ref (G.1 111)), (1, .int w), (4, .int (nI (i + 1))), (5, .int (nI j))] d_Mo_fits_85 3 rfl rfl (by decide) rfl ?_
                  refine j_iinc hx [(5, .int ((nI j) + 1)), (2, .int (((mfA (up σ 111 0 0) i j (mft (up σ 111 0 0) i)).1) + 1)), (3, .int ((mfA (up σ 111 0 0) i j (mft (up σ 111 0 0) i)).2)), (0, .ref (G.1 111)), (1, .int w), (4, .int (nI (i + 1)))] d_Mo_fits_88 5 rfl rfl (by decide) rfl ?_
                  refine j_goto (tgt := 47) hx d_Mo_fits_91 (by decide) ?_
                  refine J.lsub (ls' := [(0, .ref (G.1 111)), (1, .int w), (2, .int (((mfA (up σ 111 0 0) i j (mft (up σ 111 0 0) i)).1) + 1)), (3, .int ((mfA (up σ 111 0 0) i j (mft (up σ 111 0 0) i)).2)), (4, .int (nI (i + 1))), (5, .int ((nI j) + 1))]) [3, 4, 1, 2, 5, 0] rfl ?_
                  refine J.to ?_ ?_ (ih47 _ ?_ (j + 1) hlt47 rfl)
                  · first | (first | rfl | (simp [zc41, zc51, zc62, zc69]; done)) | fail
                  · first | (simp only [nI_s]; first | (rw [mfA_1 zc62]; done) | (rw [mfA_2 zc62 zc69]; done) | (rw [mfA_3 zc62 zc69]; done)) | fail
                  · first | (omega) | fail
                · skip
                  refine j_bipush (v := 10) hx d_Mo_fits_72 (by decide) ?_
                  refine j_iload hx d_Mo_fits_74 4 rfl ?_
                  refine j_imul hx d_Mo_fits_76 ?_
                  refine j_iload hx d_Mo_fits_77 5 rfl ?_
                  refine j_iadd hx d_Mo_fits_79 ?_
                  refine j_goto (tgt := 84) hx d_Mo_fits_80 (by decide) ?_
                  refine j_istore_n hx [(3, .int ((10 * (nI (i + 1))) + (nI j))), (0, .ref (G.1 111)), (1, .int w), (2, .int ((mfA (up σ 111 0 0) i j (mft (up σ 111 0 0) i)).1)), (4, .int (nI (i + 1))), (5, .int (nI j))] d_Mo_fits_84 rfl (by decide) rfl ?_
                  refine j_iinc hx [(2, .int (((mfA (up σ 111 0 0) i j (mft (up σ 111 0 0) i)).1) + 1)), (3, .int ((10 * (nI (i + 1))) + (nI j))), (0, .ref (G.1 111)), (1, .int w), (4, .int (nI (i + 1))), (5, .int (nI j))] d_Mo_fits_85 3 rfl rfl (by decide) rfl ?_
                  refine j_iinc hx [(5, .int ((nI j) + 1)), (2, .int (((mfA (up σ 111 0 0) i j (mft (up σ 111 0 0) i)).1) + 1)), (3, .int ((10 * (nI (i + 1))) + (nI j))), (0, .ref (G.1 111)), (1, .int w), (4, .int (nI (i + 1)))] d_Mo_fits_88 5 rfl rfl (by decide) rfl ?_
                  refine j_goto (tgt := 47) hx d_Mo_fits_91 (by decide) ?_
                  refine J.lsub (ls' := [(0, .ref (G.1 111)), (1, .int w), (2, .int (((mfA (up σ 111 0 0) i j (mft (up σ 111 0 0) i)).1) + 1)), (3, .int ((10 * (nI (i + 1))) + (nI j))), (4, .int (nI (i + 1))), (5, .int ((nI j) + 1))]) [3, 4, 1, 2, 5, 0] rfl ?_
                  refine J.to ?_ ?_ (ih47 _ ?_ (j + 1) hlt47 rfl)
                  · first | (first | rfl | (simp [zc41, zc51, zc62, zc69]; done)) | fail
                  · first | (simp only [nI_s]; first | (rw [mfA_1 zc62]; done) | (rw [mfA_2 zc62 zc69]; done) | (rw [mfA_3 zc62 zc69]; done)) | fail
                  · first | (omega) | fail
              · skip
                refine j_goto (tgt := 88) hx d_Mo_fits_65 (by decide) ?_
                refine j_iinc hx [(5, .int ((nI j) + 1)), (0, .ref (G.1 111)), (1, .int w), (2, .int ((mfA (up σ 111 0 0) i j (mft (up σ 111 0 0) i)).1)), (3, .int ((mfA (up σ 111 0 0) i j (mft (up σ 111 0 0) i)).2)), (4, .int (nI (i + 1)))] d_Mo_fits_88 5 rfl rfl (by decide) rfl ?_
                refine j_goto (tgt := 47) hx d_Mo_fits_91 (by decide) ?_
                refine J.lsub (ls' := [(0, .ref (G.1 111)), (1, .int w), (2, .int ((mfA (up σ 111 0 0) i j (mft (up σ 111 0 0) i)).1)), (3, .int ((mfA (up σ 111 0 0) i j (mft (up σ 111 0 0) i)).2)), (4, .int (nI (i + 1))), (5, .int ((nI j) + 1))]) [1, 2, 3, 4, 5, 0] rfl ?_
                refine J.to ?_ ?_ (ih47 _ ?_ (j + 1) hlt47 rfl)
                · first | (first | rfl | (simp [zc41, zc51, zc62]; done)) | fail
                · first | (simp only [nI_s]; first | (rw [mfA_1 zc62]; done) | (rw [mfA_2 zc62 zc69]; done) | (rw [mfA_3 zc62 zc69]; done)) | fail
                · first | (omega) | fail
        refine J.lsub (ls' := [(0, .ref (G.1 111)), (1, .int w), (2, .int ((mft (up σ 111 0 0) i).1)), (3, .int ((mft (up σ 111 0 0) i).2)), (4, .int (nI (i + 1))), (5, .int 0)]) [1, 2, 3, 4, 5, 0] rfl ?_
        refine J.to ?_ ?_ (hl47 _ 0 (Nat.zero_le _) rfl)
        · first | (first | rfl | (simp [zc41]; done)) | fail
        · first | (rfl) | fail
  refine J.lsub (ls' := [(0, .ref (G.1 111)), (1, .int w), (2, .int 0), (3, .int ((-1))), (4, .int 1)]) [3, 4, 2, 1, 0] rfl ?_
  refine J.to ?_ ?_ (hl37 _ 0 (Nat.zero_le _) rfl)
  · first | (first | rfl | (simp []; done)) | fail
  · first | (rfl) | fail

set_option maxRecDepth 20000 in
set_option maxHeartbeats 4000000 in
theorem c_Mo_fitsI {l : Launch} {G : Gz} (hG : zI G) (σ : St) (w : Int32) (hbad : ¬ (0 ≤ w ∧ w ≤ 1)) : MI l G y_Mo_fits prog_14_method_78_code 6 .int 4 [.ref (G.1 111), .int w] σ 0 (mrf σ 1 1) := by
  refine MI.of hG (by decide) (Nat.le_of_ble_eq_true rfl) (fun X hx hq => ?_)
  show J l G X 6 σ 0 [(0, .ref (G.1 111)), (1, .int w)] []
  refine j_aload_n hx d_Mo_fits_0 rfl 0 rfl ?_
  refine j_iconst (v := 0) hx d_Mo_fits_1 (by decide) ?_
  refine j_put hx ck_Mo 0 (by decide) t_1418 (by decide) (sh_111 _ _) rfl (Nat.le_of_ble_eq_true rfl) (sh_111 _ _) d_Mo_fits_2 ?_
  refine j_aload_n hx d_Mo_fits_5 rfl 0 rfl ?_
  refine j_iload_n hx d_Mo_fits_6 rfl 1 rfl ?_
  refine j_iconst (v := 0) hx d_Mo_fits_7 (by decide) ?_
  refine j_iconst (v := 1) hx d_Mo_fits_8 (by decide) ?_
  refine j_callSi hx (c_Mo_in0 hG (up σ 111 0 0) w 0 1 (by exact hbad)) mo_Mo_in t_1582 t_1581 (by decide) rfl rfl (Nat.le_of_ble_eq_true rfl) d_Mo_fits_9 ?_
  refine j_if_ne (tgt := 19) hx d_Mo_fits_12 (by decide) (fun zc12 => absurd rfl zc12) (fun _ => ?_)
  refine j_iconst (v := 1) hx d_Mo_fits_15 (by decide) ?_
  refine j_goto (tgt := 20) hx d_Mo_fits_16 (by decide) ?_
  refine j_iconst (v := 1) hx d_Mo_fits_20 (by decide) ?_
  refine j_iconst (v := 1) hx d_Mo_fits_21 (by decide) ?_
  refine j_callVi hx (c_Mo_bad1 hG (up σ 111 0 0) 1 1 1 (by decide) (by exact up_rd) (by decide) (by decide)) mo_Mo_bad mv_Mo_bad t_1584 (by decide) rfl (by decide) (sh_111 _ _) rfl rfl (Nat.le_of_ble_eq_true rfl) d_Mo_fits_22 ?_
  refine j_if_eq (tgt := 30) hx d_Mo_fits_25 (by decide) (fun zc25 => absurd zc25 (by decide)) (fun _ => ?_)
  refine j_iconst (v := 0) hx d_Mo_fits_28 (by decide) ?_
  exact j_iret hx hq rfl d_Mo_fits_29 (by first | (rfl) | fail) (by first | (rfl) | fail)

set_option maxRecDepth 20000 in
set_option maxHeartbeats 4000000 in
theorem c_Mo_look {l : Launch} {G : Gz} (hG : zI G) (σ : St) (w : Int32) (hl9 : ct ((up σ 111 0 0) 111 37) ≤ 12) (hv9 : 0 ≤ w ∧ w ≤ 1) : MI l G y_Mo_look prog_14_method_81_code 6 .int 9 [.ref (G.1 111), .int w] σ (mlo (up σ 111 0 0) w) (t0 σ) := by
  refine MI.of hG (by decide) (Nat.le_of_ble_eq_true rfl) (fun X hx hq => ?_)
  show J l G X 6 σ 0 [(0, .ref (G.1 111)), (1, .int w)] []
  refine j_aload_n hx d_Mo_look_0 rfl 0 rfl ?_
  refine j_iconst (v := 0) hx d_Mo_look_1 (by decide) ?_
  refine j_put hx ck_Mo 0 (by decide) t_1418 (by decide) (sh_111 _ _) rfl (Nat.le_of_ble_eq_true rfl) (sh_111 _ _) d_Mo_look_2 ?_
  refine j_aload_n hx d_Mo_look_5 rfl 0 rfl ?_
  refine j_iload_n hx d_Mo_look_6 rfl 1 rfl ?_
  refine j_iconst (v := 0) hx d_Mo_look_7 (by decide) ?_
  refine j_iconst (v := 1) hx d_Mo_look_8 (by decide) ?_
  refine j_callSi hx (c_Mo_in1 hG (up σ 111 0 0) w 0 1 (by exact hv9)) mo_Mo_in t_1582 t_1581 (by decide) rfl rfl (Nat.le_of_ble_eq_true rfl) d_Mo_look_9 ?_
  refine j_if_ne (tgt := 19) hx d_Mo_look_12 (by decide) (fun _ => ?_) (fun zc12 => absurd zc12 (by decide))
  refine j_iconst (v := 0) hx d_Mo_look_19 (by decide) ?_
  refine j_iconst (v := 1) hx d_Mo_look_20 (by decide) ?_
  refine j_iconst (v := 1) hx d_Mo_look_21 (by decide) ?_
  refine j_callVi hx (c_Mo_bad0 hG (up σ 111 0 0) 0 1 1 (by rfl) (by exact up_rd)) mo_Mo_bad mv_Mo_bad t_1584 (by decide) rfl (by decide) (sh_111 _ _) rfl rfl (Nat.le_of_ble_eq_true rfl) d_Mo_look_22 ?_
  refine j_if_eq (tgt := 30) hx d_Mo_look_25 (by decide) (fun _ => ?_) (fun zc25 => absurd (by decide) zc25)
  refine j_iconst (v := (-1)) hx d_Mo_look_30 (by decide) ?_
  refine j_istore_n hx [(2, .int ((-1))), (0, .ref (G.1 111)), (1, .int w)] d_Mo_look_31 rfl (by decide) rfl ?_
  refine j_iconst (v := (-1)) hx d_Mo_look_32 (by decide) ?_
  refine j_istore_n hx [(3, .int ((-1))), (2, .int ((-1))), (0, .ref (G.1 111)), (1, .int w)] d_Mo_look_33 rfl (by decide) rfl ?_
  refine j_iconst (v := 0) hx d_Mo_look_34 (by decide) ?_
  refine j_istore hx [(4, .int 0), (3, .int ((-1))), (2, .int ((-1))), (0, .ref (G.1 111)), (1, .int w)] d_Mo_look_35 (by decide) rfl ?_
  have hl37 : ∀ (N9 : Nat) (i : Nat), (i ≤ 60) → 60 - i = N9 → J l G X 6 (up σ 111 0 0) 37 [(0, .ref (G.1 111)), (1, .int w), (2, .int ((mlF (up σ 111 0 0) i).1)), (3, .int ((mlF (up σ 111 0 0) i).2)), (4, .int (nI i))] [] := by
    intro N9
    induction N9 using Nat.strongRecOn with
    | _ N9 ih37 =>
      intro i hi_i hm37
      refine j_iload hx d_Mo_look_37 4 rfl ?_
      refine j_bipush (v := 60) hx d_Mo_look_39 (by decide) ?_
      refine j_icmp_ge (tgt := 90) hx d_Mo_look_41 (by decide) (fun zc41 => ?_) (fun zc41 => ?_)
      · skip
        obtain rfl := nt_end (n := 60) hi_i (by decide) zc41
        refine j_iload_n hx d_Mo_look_90 rfl 1 rfl ?_
        refine j_if_ne (tgt := 98) hx d_Mo_look_91 (by decide) (fun zc91 => ?_) (fun zc91 => ?_)
        · skip
          refine j_iload_n hx d_Mo_look_98 rfl 3 rfl ?_
          exact j_iret hx hq rfl d_Mo_look_99 (by first | (unfold mlo; first | exact (if_pos zc91).symm | exact (if_neg zc91).symm) | fail) (by first | (rfl) | fail)
        · skip
          refine j_iload_n hx d_Mo_look_94 rfl 2 rfl ?_
          refine j_goto (tgt := 99) hx d_Mo_look_95 (by decide) ?_
          exact j_iret hx hq rfl d_Mo_look_99 (by first | (unfold mlo; first | exact (if_pos zc91).symm | exact (if_neg zc91).symm) | fail) (by first | (rfl) | fail)
      · skip
        have hlt37 := nt_go (n := 60) hi_i (by decide) zc41
        refine j_aload_n hx d_Mo_look_44 rfl 0 rfl ?_
        refine j_iload hx d_Mo_look_45 4 rfl ?_
        refine j_callVi hx (c_Mo_isTold hG (up σ 111 0 0) (nI i) (by exact hl9)) mo_Mo_isTold mv_Mo_isTold t_1856 (by decide) rfl (by decide) (sh_111 _ _) rfl rfl (Nat.le_of_ble_eq_true rfl) d_Mo_look_47 ?_
        refine j_if_eq (tgt := 56) hx d_Mo_look_50 (by decide) (fun zc50 => ?_) (fun zc50 => ?_)
        · skip
          refine j_aload_n hx d_Mo_look_56 rfl 0 rfl ?_
          refine j_iload hx d_Mo_look_57 4 rfl ?_
          refine j_callVi hx (c_Mo_worstAt hG (up σ 111 0 0) (nI i) (by exact hl9)) mo_Mo_worstAt mv_Mo_worstAt t_1860 (by decide) rfl (by decide) (sh_111 _ _) rfl rfl (Nat.le_of_ble_eq_true rfl) d_Mo_look_59 ?_
          refine j_istore hx [(5, .int (mwV (up σ 111 0 0) (nI i))), (0, .ref (G.1 111)), (1, .int w), (2, .int ((mlF (up σ 111 0 0) i).1)), (3, .int ((mlF (up σ 111 0 0) i).2)), (4, .int (nI i))] d_Mo_look_62 (by decide) rfl ?_
          refine j_iload_n hx d_Mo_look_64 rfl 3 rfl ?_
          refine j_iconst (v := (-1)) hx d_Mo_look_65 (by decide) ?_
          refine j_icmp_eq (tgt := 78) hx d_Mo_look_66 (by decide) (fun zc66 => ?_) (fun zc66 => ?_)
          · skip
            refine j_iload hx d_Mo_look_78 5 rfl ?_
            refine j_istore_n hx [(2, .int (nI i)), (5, .int (mwV (up σ 111 0 0) (nI i))), (0, .ref (G.1 111)), (1, .int w), (3, .int ((mlF (up σ 111 0 0) i).2)), (4, .int (nI i))] d_Mo_look_80 rfl (by decide) rfl ?_
            refine j_iload hx d_Mo_look_81 1 rfl ?_
            refine j_istore_n hx [(3, .int (mwV (up σ 111 0 0) (nI i))), (2, .int (nI i)), (5, .int (mwV (up σ 111 0 0) (nI i))), (0, .ref (G.1 111)), (1, .int w), (4, .int (nI i))] d_Mo_look_83 rfl (by decide) rfl ?_
            refine j_iinc hx [(4, .int ((nI i) + 1)), (3, .int (mwV (up σ 111 0 0) (nI i))), (2, .int (nI i)), (5, .int (mwV (up σ 111 0 0) (nI i))), (0, .ref (G.1 111)), (1, .int w)] d_Mo_look_84 5 rfl rfl (by decide) rfl ?_
            refine j_goto (tgt := 37) hx d_Mo_look_87 (by decide) ?_
            refine J.lsub (ls' := [(0, .ref (G.1 111)), (1, .int w), (2, .int (nI i)), (3, .int (mwV (up σ 111 0 0) (nI i))), (4, .int ((nI i) + 1))]) [4, 5, 2, 1, 0] rfl ?_
            refine J.to ?_ ?_ (ih37 _ ?_ (i + 1) hlt37 rfl)
            · first | (first | rfl | (simp [zc41, zc50, zc66]; done)) | fail
            · first | (simp only [nI_s]; first | (rw [mlF_1 zc50]; done) | (rw [mlF_2 zc50 (Or.inl zc66)]; done) | (rw [mlF_2 zc50 (Or.inr zc72)]; done) | (rw [mlF_3 zc50 (fun z => z.elim zc66 zc72)]; done)) | fail
            · first | (omega) | fail
          · skip
            refine j_iload hx d_Mo_look_69 0 rfl ?_
            refine j_iload_n hx d_Mo_look_71 rfl 4 rfl ?_
            refine j_icmp_lt (tgt := 78) hx d_Mo_look_72 (by decide) (fun zc72 => ?_) (fun zc72 => ?_)
            · skip
              refine j_iload hx d_Mo_look_78 5 rfl ?_
              refine j_istore_n hx [(2, .int (nI i)), (5, .int (mwV (up σ 111 0 0) (nI i))), (0, .ref (G.1 111)), (1, .int w), (3, .int ((mlF (up σ 111 0 0) i).2)), (4, .int (nI i))] d_Mo_look_80 rfl (by decide) rfl ?_
              refine j_iload hx d_Mo_look_81 1 rfl ?_
              refine j_istore_n hx [(3, .int (mwV (up σ 111 0 0) (nI i))), (2, .int (nI i)), (5, .int (mwV (up σ 111 0 0) (nI i))), (0, .ref (G.1 111)), (1, .int w), (4, .int (nI i))] d_Mo_look_83 rfl (by decide) rfl ?_
              refine j_iinc hx [(4, .int ((nI i) + 1)), (3, .int (mwV (up σ 111 0 0) (nI i))), (2, .int (nI i)), (5, .int (mwV (up σ 111 0 0) (nI i))), (0, .ref (G.1 111)), (1, .int w)] d_Mo_look_84 5 rfl rfl (by decide) rfl ?_
              refine j_goto (tgt := 37) hx d_Mo_look_87 (by decide) ?_
              refine J.lsub (ls' := [(0, .ref (G.1 111)), (1, .int w), (2, .int (nI i)), (3, .int (mwV (up σ 111 0 0) (nI i))), (4, .int ((nI i) + 1))]) [4, 5, 2, 1, 0] rfl ?_
              refine J.to ?_ ?_ (ih37 _ ?_ (i + 1) hlt37 rfl)
              · first | (first | rfl | (simp [zc41, zc50, zc66, zc72]; done)) | fail
              · first | (simp only [nI_s]; first | (rw [mlF_1 zc50]; done) | (rw [mlF_2 zc50 (Or.inl zc66)]; done) | (rw [mlF_2 zc50 (Or.inr zc72)]; done) | (rw [mlF_3 zc50 (fun z => z.elim zc66 zc72)]; done)) | fail
              · first | (omega) | fail
            · skip
              refine j_goto (tgt := 84) hx d_Mo_look_75 (by decide) ?_
              refine j_iinc hx [(4, .int ((nI i) + 1)), (5, .int (mwV (up σ 111 0 0) (nI i))), (0, .ref (G.1 111)), (1, .int w), (2, .int ((mlF (up σ 111 0 0) i).1)), (3, .int ((mlF (up σ 111 0 0) i).2))] d_Mo_look_84 5 rfl rfl (by decide) rfl ?_
              refine j_goto (tgt := 37) hx d_Mo_look_87 (by decide) ?_
              refine J.lsub (ls' := [(0, .ref (G.1 111)), (1, .int w), (2, .int ((mlF (up σ 111 0 0) i).1)), (3, .int ((mlF (up σ 111 0 0) i).2)), (4, .int ((nI i) + 1))]) [2, 3, 4, 5, 0] rfl ?_
              refine J.to ?_ ?_ (ih37 _ ?_ (i + 1) hlt37 rfl)
              · first | (first | rfl | (simp [zc41, zc50, zc66, zc72]; done)) | fail
              · first | (simp only [nI_s]; first | (rw [mlF_1 zc50]; done) | (rw [mlF_2 zc50 (Or.inl zc66)]; done) | (rw [mlF_2 zc50 (Or.inr zc72)]; done) | (rw [mlF_3 zc50 (fun z => z.elim zc66 zc72)]; done)) | fail
              · first | (omega) | fail
        · skip
          refine j_goto (tgt := 84) hx d_Mo_look_53 (by decide) ?_
          refine j_iinc hx [(4, .int ((nI i) + 1)), (0, .ref (G.1 111)), (1, .int w), (2, .int ((mlF (up σ 111 0 0) i).1)), (3, .int ((mlF (up σ 111 0 0) i).2))] d_Mo_look_84 4 rfl rfl (by decide) rfl ?_
          refine j_goto (tgt := 37) hx d_Mo_look_87 (by decide) ?_
          refine J.lsub (ls' := [(0, .ref (G.1 111)), (1, .int w), (2, .int ((mlF (up σ 111 0 0) i).1)), (3, .int ((mlF (up σ 111 0 0) i).2)), (4, .int ((nI i) + 1))]) [1, 2, 3, 4, 0] rfl ?_
          refine J.to ?_ ?_ (ih37 _ ?_ (i + 1) hlt37 rfl)
          · first | (first | rfl | (simp [zc41, zc50]; done)) | fail
          · first | (simp only [nI_s]; first | (rw [mlF_1 zc50]; done) | (rw [mlF_2 zc50 (Or.inl zc66)]; done) | (rw [mlF_2 zc50 (Or.inr zc72)]; done) | (rw [mlF_3 zc50 (fun z => z.elim zc66 zc72)]; done)) | fail
          · first | (omega) | fail
  refine J.lsub (ls' := [(0, .ref (G.1 111)), (1, .int w), (2, .int ((-1))), (3, .int ((-1))), (4, .int 0)]) [3, 4, 2, 1, 0] rfl ?_
  refine J.to ?_ ?_ (hl37 _ 0 (Nat.zero_le _) rfl)
  · first | (first | rfl | (simp []; done)) | fail
  · first | (rfl) | fail

set_option maxRecDepth 20000 in
set_option maxHeartbeats 4000000 in
theorem c_Mo_lookI {l : Launch} {G : Gz} (hG : zI G) (σ : St) (w : Int32) (hbad : ¬ (0 ≤ w ∧ w ≤ 1)) : MI l G y_Mo_look prog_14_method_81_code 6 .int 4 [.ref (G.1 111), .int w] σ 0 (mrf σ 1 1) := by
  refine MI.of hG (by decide) (Nat.le_of_ble_eq_true rfl) (fun X hx hq => ?_)
  show J l G X 6 σ 0 [(0, .ref (G.1 111)), (1, .int w)] []
  refine j_aload_n hx d_Mo_look_0 rfl 0 rfl ?_
  refine j_iconst (v := 0) hx d_Mo_look_1 (by decide) ?_
  refine j_put hx ck_Mo 0 (by decide) t_1418 (by decide) (sh_111 _ _) rfl (Nat.le_of_ble_eq_true rfl) (sh_111 _ _) d_Mo_look_2 ?_
  refine j_aload_n hx d_Mo_look_5 rfl 0 rfl ?_
  refine j_iload_n hx d_Mo_look_6 rfl 1 rfl ?_
  refine j_iconst (v := 0) hx d_Mo_look_7 (by decide) ?_
  refine j_iconst (v := 1) hx d_Mo_look_8 (by decide) ?_
  refine j_callSi hx (c_Mo_in0 hG (up σ 111 0 0) w 0 1 (by exact hbad)) mo_Mo_in t_1582 t_1581 (by decide) rfl rfl (Nat.le_of_ble_eq_true rfl) d_Mo_look_9 ?_
  refine j_if_ne (tgt := 19) hx d_Mo_look_12 (by decide) (fun zc12 => absurd rfl zc12) (fun _ => ?_)
  refine j_iconst (v := 1) hx d_Mo_look_15 (by decide) ?_
  refine j_goto (tgt := 20) hx d_Mo_look_16 (by decide) ?_
  refine j_iconst (v := 1) hx d_Mo_look_20 (by decide) ?_
  refine j_iconst (v := 1) hx d_Mo_look_21 (by decide) ?_
  refine j_callVi hx (c_Mo_bad1 hG (up σ 111 0 0) 1 1 1 (by decide) (by exact up_rd) (by decide) (by decide)) mo_Mo_bad mv_Mo_bad t_1584 (by decide) rfl (by decide) (sh_111 _ _) rfl rfl (Nat.le_of_ble_eq_true rfl) d_Mo_look_22 ?_
  refine j_if_eq (tgt := 30) hx d_Mo_look_25 (by decide) (fun zc25 => absurd zc25 (by decide)) (fun _ => ?_)
  refine j_iconst (v := 0) hx d_Mo_look_28 (by decide) ?_
  exact j_iret hx hq rfl d_Mo_look_29 (by first | (rfl) | fail) (by first | (rfl) | fail)

set_option maxRecDepth 20000 in
set_option maxHeartbeats 4000000 in
theorem c_Mo_code {l : Launch} {G : Gz} (hG : zI G) (σ : St) (n : Nat) (w : Int32) (hw : mW (up σ 111 0 0)) (hn9 : n < 9) (hv10 : 1 ≤ nI n ∧ nI n ≤ 8) (hv19 : 0 ≤ w ∧ w ≤ 1) : MI l G y_Mo_code prog_14_method_84_code 3 .int 9 [.ref (G.1 111), .int (nI n), .int w] σ (if w = 0 then (mco (up σ 111 0 0) n (ct (1 <<< (nI n &&& 31)))).1 else (mco (up σ 111 0 0) n (ct (1 <<< (nI n &&& 31)))).2) (t0 σ) := by
  refine MI.of hG (by decide) (Nat.le_of_ble_eq_true rfl) (fun X hx hq => ?_)
  show J l G X 3 σ 0 [(0, .ref (G.1 111)), (1, .int (nI n)), (2, .int w)] []
  refine j_aload_n hx d_Mo_code_0 rfl 0 rfl ?_
  refine j_iconst (v := 0) hx d_Mo_code_1 (by decide) ?_
  refine j_put hx ck_Mo 0 (by decide) t_1418 (by decide) (sh_111 _ _) rfl (Nat.le_of_ble_eq_true rfl) (sh_111 _ _) d_Mo_code_2 ?_
  refine j_aload_n hx d_Mo_code_5 rfl 0 rfl ?_
  refine j_iload_n hx d_Mo_code_6 rfl 1 rfl ?_
  refine j_iconst (v := 1) hx d_Mo_code_7 (by decide) ?_
  refine j_bipush (v := 8) hx d_Mo_code_8 (by decide) ?_
  refine j_callSi hx (c_Mo_in1 hG (up σ 111 0 0) (nI n) 1 8 (by exact hv10)) mo_Mo_in t_1582 t_1581 (by decide) rfl rfl (Nat.le_of_ble_eq_true rfl) d_Mo_code_10 ?_
  refine j_if_eq (tgt := 25) hx d_Mo_code_13 (by decide) (fun zc13 => absurd zc13 (by decide)) (fun _ => ?_)
  refine j_iload_n hx d_Mo_code_16 rfl 2 rfl ?_
  refine j_iconst (v := 0) hx d_Mo_code_17 (by decide) ?_
  refine j_iconst (v := 1) hx d_Mo_code_18 (by decide) ?_
  refine j_callSi hx (c_Mo_in1 hG (up σ 111 0 0) w 0 1 (by exact hv19)) mo_Mo_in t_1582 t_1581 (by decide) rfl rfl (Nat.le_of_ble_eq_true rfl) d_Mo_code_19 ?_
  refine j_if_ne (tgt := 29) hx d_Mo_code_22 (by decide) (fun _ => ?_) (fun zc22 => absurd zc22 (by decide))
  refine j_iconst (v := 0) hx d_Mo_code_29 (by decide) ?_
  refine j_iconst (v := 1) hx d_Mo_code_30 (by decide) ?_
  refine j_iconst (v := 1) hx d_Mo_code_31 (by decide) ?_
  refine j_callVi hx (c_Mo_bad0 hG (up σ 111 0 0) 0 1 1 (by rfl) (by exact up_rd)) mo_Mo_bad mv_Mo_bad t_1584 (by decide) rfl (by decide) (sh_111 _ _) rfl rfl (Nat.le_of_ble_eq_true rfl) d_Mo_code_32 ?_
  refine j_if_eq (tgt := 40) hx d_Mo_code_35 (by decide) (fun _ => ?_) (fun zc35 => absurd (by decide) zc35)
  refine j_aload_n hx d_Mo_code_40 rfl 0 rfl ?_
  refine j_iload_n hx d_Mo_code_41 rfl 1 rfl ?_
  refine j_iload_n hx d_Mo_code_42 rfl 2 rfl ?_
  refine j_callVi hx (c_Mo_codesOf hG (up σ 111 0 0) n w (by exact hw) (by exact hn9)) mo_Mo_codesOf mv_Mo_codesOf t_1868 (by decide) rfl (by decide) (sh_111 _ _) rfl rfl (Nat.le_of_ble_eq_true rfl) d_Mo_code_43 ?_
  exact j_iret hx hq rfl d_Mo_code_46 (by first | (rfl) | fail) (by first | (rfl) | fail)

set_option maxRecDepth 20000 in
set_option maxHeartbeats 4000000 in
theorem c_Mo_codeI {l : Launch} {G : Gz} (hG : zI G) (σ : St) (n : Int32) (w : Int32) (hbad : ¬ ((1 ≤ n ∧ n ≤ 8) ∧ (0 ≤ w ∧ w ≤ 1))) : MI l G y_Mo_code prog_14_method_84_code 3 .int 4 [.ref (G.1 111), .int n, .int w] σ 0 (mrf σ 1 1) := by
  refine MI.of hG (by decide) (Nat.le_of_ble_eq_true rfl) (fun X hx hq => ?_)
  show J l G X 3 σ 0 [(0, .ref (G.1 111)), (1, .int n), (2, .int w)] []
  refine j_aload_n hx d_Mo_code_0 rfl 0 rfl ?_
  refine j_iconst (v := 0) hx d_Mo_code_1 (by decide) ?_
  refine j_put hx ck_Mo 0 (by decide) t_1418 (by decide) (sh_111 _ _) rfl (Nat.le_of_ble_eq_true rfl) (sh_111 _ _) d_Mo_code_2 ?_
  refine j_aload_n hx d_Mo_code_5 rfl 0 rfl ?_
  refine j_iload_n hx d_Mo_code_6 rfl 1 rfl ?_
  refine j_iconst (v := 1) hx d_Mo_code_7 (by decide) ?_
  refine j_bipush (v := 8) hx d_Mo_code_8 (by decide) ?_
  by_cases hn10 : 1 ≤ n ∧ n ≤ 8
  · skip
    refine j_callSi hx (c_Mo_in1 hG (up σ 111 0 0) n 1 8 (by exact hn10)) mo_Mo_in t_1582 t_1581 (by decide) rfl rfl (Nat.le_of_ble_eq_true rfl) d_Mo_code_10 ?_
    refine j_if_eq (tgt := 25) hx d_Mo_code_13 (by decide) (fun zc13 => absurd zc13 (by decide)) (fun _ => ?_)
    refine j_iload_n hx d_Mo_code_16 rfl 2 rfl ?_
    refine j_iconst (v := 0) hx d_Mo_code_17 (by decide) ?_
    refine j_iconst (v := 1) hx d_Mo_code_18 (by decide) ?_
    by_cases hn19 : 0 ≤ w ∧ w ≤ 1
    · skip
      exact absurd ⟨hn10, hn19⟩ hbad
    refine j_callSi hx (c_Mo_in0 hG (up σ 111 0 0) w 0 1 (by exact hn19)) mo_Mo_in t_1582 t_1581 (by decide) rfl rfl (Nat.le_of_ble_eq_true rfl) d_Mo_code_19 ?_
    refine j_if_ne (tgt := 29) hx d_Mo_code_22 (by decide) (fun zc22 => absurd rfl zc22) (fun _ => ?_)
    refine j_iconst (v := 1) hx d_Mo_code_25 (by decide) ?_
    refine j_goto (tgt := 30) hx d_Mo_code_26 (by decide) ?_
    refine j_iconst (v := 1) hx d_Mo_code_30 (by decide) ?_
    refine j_iconst (v := 1) hx d_Mo_code_31 (by decide) ?_
    refine j_callVi hx (c_Mo_bad1 hG (up σ 111 0 0) 1 1 1 (by decide) (by exact up_rd) (by decide) (by decide)) mo_Mo_bad mv_Mo_bad t_1584 (by decide) rfl (by decide) (sh_111 _ _) rfl rfl (Nat.le_of_ble_eq_true rfl) d_Mo_code_32 ?_
    refine j_if_eq (tgt := 40) hx d_Mo_code_35 (by decide) (fun zc35 => absurd zc35 (by decide)) (fun _ => ?_)
    refine j_iconst (v := 0) hx d_Mo_code_38 (by decide) ?_
    exact j_iret hx hq rfl d_Mo_code_39 (by first | (rfl) | fail) (by first | (rfl) | fail)
  refine j_callSi hx (c_Mo_in0 hG (up σ 111 0 0) n 1 8 (by exact hn10)) mo_Mo_in t_1582 t_1581 (by decide) rfl rfl (Nat.le_of_ble_eq_true rfl) d_Mo_code_10 ?_
  refine j_if_eq (tgt := 25) hx d_Mo_code_13 (by decide) (fun _ => ?_) (fun zc13 => absurd (by decide) zc13)
  refine j_iconst (v := 1) hx d_Mo_code_25 (by decide) ?_
  refine j_goto (tgt := 30) hx d_Mo_code_26 (by decide) ?_
  refine j_iconst (v := 1) hx d_Mo_code_30 (by decide) ?_
  refine j_iconst (v := 1) hx d_Mo_code_31 (by decide) ?_
  refine j_callVi hx (c_Mo_bad1 hG (up σ 111 0 0) 1 1 1 (by decide) (by exact up_rd) (by decide) (by decide)) mo_Mo_bad mv_Mo_bad t_1584 (by decide) rfl (by decide) (sh_111 _ _) rfl rfl (Nat.le_of_ble_eq_true rfl) d_Mo_code_32 ?_
  refine j_if_eq (tgt := 40) hx d_Mo_code_35 (by decide) (fun zc35 => absurd zc35 (by decide)) (fun _ => ?_)
  refine j_iconst (v := 0) hx d_Mo_code_38 (by decide) ?_
  exact j_iret hx hq rfl d_Mo_code_39 (by first | (rfl) | fail) (by first | (rfl) | fail)

set_option maxRecDepth 20000 in
set_option maxHeartbeats 4000000 in
theorem c_Mo_shortest {l : Launch} {G : Gz} (hG : zI G) (σ : St) (hw : mW (up σ 111 0 0)) : MI l G y_Mo_shortest prog_14_method_85_code 2 .int 9 [.ref (G.1 111)] σ (mshF (up σ 111 0 0)) (t0 σ) := by
  refine MI.of hG (by decide) (Nat.le_of_ble_eq_true rfl) (fun X hx hq => ?_)
  show J l G X 2 σ 0 [(0, .ref (G.1 111))] []
  refine j_aload_n hx d_Mo_shortest_0 rfl 0 rfl ?_
  refine j_iconst (v := 0) hx d_Mo_shortest_1 (by decide) ?_
  refine j_put hx ck_Mo 0 (by decide) t_1418 (by decide) (sh_111 _ _) rfl (Nat.le_of_ble_eq_true rfl) (sh_111 _ _) d_Mo_shortest_2 ?_
  refine j_iconst (v := 1) hx d_Mo_shortest_5 (by decide) ?_
  refine j_istore_n hx [(1, .int 1), (0, .ref (G.1 111))] d_Mo_shortest_6 rfl (by decide) rfl ?_
  have hl7 : ∀ (N9 : Nat) (i : Nat), (i ≤ 8) → (fnd (fun k => if (0 : Int32) < (mco (up σ 111 0 0) (k + 1) (ct (1 <<< (nI (k + 1) &&& 31)))).1 then some (nI (k + 1)) else none) i = none) → 8 - i = N9 → J l G X 2 (up σ 111 0 0) 7 [(0, .ref (G.1 111)), (1, .int (nI (i + 1)))] [] := by
    intro N9
    induction N9 using Nat.strongRecOn with
    | _ N9 ih7 =>
      intro i hi_i hf hm7
      refine j_iload_n hx d_Mo_shortest_7 rfl 1 rfl ?_
      refine j_bipush (v := 9) hx d_Mo_shortest_8 (by decide) ?_
      refine j_icmp_ge (tgt := 30) hx d_Mo_shortest_10 (by decide) (fun zc10 => ?_) (fun zc10 => ?_)
      · skip
        obtain rfl := n19_end hi_i zc10
        refine j_iconst (v := (-1)) hx d_Mo_shortest_30 (by decide) ?_
        exact j_iret hx hq rfl d_Mo_shortest_31 (by first | (unfold mshF; first | (rw [hf]; rfl) | (rw [if_pos rfl] at zc19; rw [fnd_at hf (if_pos (i_nle zc19)) hlt7]; rfl)) | fail) (by first | (rfl) | fail)
      · skip
        have hlt7 := n19_go hi_i zc10
        refine j_aload_n hx d_Mo_shortest_13 rfl 0 rfl ?_
        refine j_iload_n hx d_Mo_shortest_14 rfl 1 rfl ?_
        refine j_iconst (v := 0) hx d_Mo_shortest_15 (by decide) ?_
        refine j_callVi hx (c_Mo_codesOf hG (up σ 111 0 0) ((i + 1)) 0 (by exact hw) (by omega)) mo_Mo_codesOf mv_Mo_codesOf t_1868 (by decide) rfl (by decide) (sh_111 _ _) rfl rfl (Nat.le_of_ble_eq_true rfl) d_Mo_shortest_16 ?_
        refine j_if_le (tgt := 24) hx d_Mo_shortest_19 (by decide) (fun zc19 => ?_) (fun zc19 => ?_)
        · skip
          refine j_iinc hx [(1, .int ((nI (i + 1)) + 1)), (0, .ref (G.1 111))] d_Mo_shortest_24 1 rfl rfl (by decide) rfl ?_
          refine j_goto (tgt := 7) hx d_Mo_shortest_27 (by decide) ?_
          refine J.lsub (ls' := [(0, .ref (G.1 111)), (1, .int ((nI (i + 1)) + 1))]) [1, 0] rfl ?_
          refine J.to ?_ ?_ (ih7 _ ?_ (i + 1) hlt7 ((fnd_s hf).trans (if_neg (by rw [if_pos rfl] at zc19; exact i_lelt zc19))) rfl)
          · first | (first | rfl | (simp [zc10, zc19]; done)) | fail
          · first | (simp only [nI_s]) | fail
          · first | (omega) | fail
        · skip
          refine j_iload_n hx d_Mo_shortest_22 rfl 1 rfl ?_
          exact j_iret hx hq rfl d_Mo_shortest_23 (by first | (unfold mshF; first | (rw [hf]; rfl) | (rw [if_pos rfl] at zc19; rw [fnd_at hf (if_pos (i_nle zc19)) hlt7]; rfl)) | fail) (by first | (rfl) | fail)
  refine J.lsub (ls' := [(0, .ref (G.1 111)), (1, .int 1)]) [1, 0] rfl ?_
  refine J.to ?_ ?_ (hl7 _ 0 (Nat.zero_le _) rfl rfl)
  · first | (first | rfl | (simp []; done)) | fail
  · first | (first | rfl | (simp only [nI_s]; done) | (simp only [nI_s, it_s]; done) | (simp [nI_s, it_s, ]; done)) | fail

set_option maxRecDepth 20000 in
set_option maxHeartbeats 4000000 in
theorem c_Mo_carriers {l : Launch} {G : Gz} (hG : zI G) (σ : St) (w : Int32) (hw : mW (up σ 111 0 0)) (hv9 : 0 ≤ w ∧ w ≤ 2) : MI l G y_Mo_carriers prog_14_method_90_code 7 .int 9 [.ref (G.1 111), .int w] σ (mca3 (up σ 111 0 0) w) (t0 σ) := by
  refine MI.of hG (by decide) (Nat.le_of_ble_eq_true rfl) (fun X hx hq => ?_)
  show J l G X 7 σ 0 [(0, .ref (G.1 111)), (1, .int w)] []
  have hb1 : ct ((up σ 111 0 0) 115 1) ≤ 6 := hw.1.2.1
  have hb2 : ct ((up σ 111 0 0) 115 2) ≤ 3 := hw.1.2.2.1
  have hb0 : ct ((up σ 111 0 0) 115 0) ≤ 12 := hw.1.1
  have hb3 : ct ((up σ 111 0 0) 115 3) ≤ 6 := hw.1.2.2.2.1
  have hb4 : ct ((up σ 111 0 0) 115 4) ≤ 6 := hw.1.2.2.2.2
  refine j_aload_n hx d_Mo_carriers_0 rfl 0 rfl ?_
  refine j_iconst (v := 0) hx d_Mo_carriers_1 (by decide) ?_
  refine j_put hx ck_Mo 0 (by decide) t_1418 (by decide) (sh_111 _ _) rfl (Nat.le_of_ble_eq_true rfl) (sh_111 _ _) d_Mo_carriers_2 ?_
  refine j_aload_n hx d_Mo_carriers_5 rfl 0 rfl ?_
  refine j_iload_n hx d_Mo_carriers_6 rfl 1 rfl ?_
  refine j_iconst (v := 0) hx d_Mo_carriers_7 (by decide) ?_
  refine j_iconst (v := 2) hx d_Mo_carriers_8 (by decide) ?_
  refine j_callSi hx (c_Mo_in1 hG (up σ 111 0 0) w 0 2 (by exact hv9)) mo_Mo_in t_1582 t_1581 (by decide) rfl rfl (Nat.le_of_ble_eq_true rfl) d_Mo_carriers_9 ?_
  refine j_if_ne (tgt := 19) hx d_Mo_carriers_12 (by decide) (fun _ => ?_) (fun zc12 => absurd zc12 (by decide))
  refine j_iconst (v := 0) hx d_Mo_carriers_19 (by decide) ?_
  refine j_iconst (v := 1) hx d_Mo_carriers_20 (by decide) ?_
  refine j_iconst (v := 1) hx d_Mo_carriers_21 (by decide) ?_
  refine j_callVi hx (c_Mo_bad0 hG (up σ 111 0 0) 0 1 1 (by rfl) (by exact up_rd)) mo_Mo_bad mv_Mo_bad t_1584 (by decide) rfl (by decide) (sh_111 _ _) rfl rfl (Nat.le_of_ble_eq_true rfl) d_Mo_carriers_22 ?_
  refine j_if_eq (tgt := 30) hx d_Mo_carriers_25 (by decide) (fun _ => ?_) (fun zc25 => absurd (by decide) zc25)
  refine j_iconst (v := 0) hx d_Mo_carriers_30 (by decide) ?_
  refine j_istore_n hx [(2, .int 0), (0, .ref (G.1 111)), (1, .int w)] d_Mo_carriers_31 rfl (by decide) rfl ?_
  refine j_iconst (v := (-1)) hx d_Mo_carriers_32 (by decide) ?_
  refine j_istore_n hx [(3, .int ((-1))), (2, .int 0), (0, .ref (G.1 111)), (1, .int w)] d_Mo_carriers_33 rfl (by decide) rfl ?_
  refine j_iconst (v := 0) hx d_Mo_carriers_34 (by decide) ?_
  refine j_istore hx [(4, .int 0), (3, .int ((-1))), (2, .int 0), (0, .ref (G.1 111)), (1, .int w)] d_Mo_carriers_35 (by decide) rfl ?_
  refine j_iconst (v := 0) hx d_Mo_carriers_37 (by decide) ?_
  refine j_istore hx [(5, .int 0), (4, .int 0), (3, .int ((-1))), (2, .int 0), (0, .ref (G.1 111)), (1, .int w)] d_Mo_carriers_38 (by decide) rfl ?_
  have hl40 : ∀ (N9 : Nat) (i : Nat), (i ≤ (ct ((up σ 111 0 0) 115 0))) → (ct ((up σ 111 0 0) 115 0)) - i = N9 → J l G X 7 (up σ 111 0 0) 40 [(0, .ref (G.1 111)), (1, .int w), (2, .int ((mcr (up σ 111 0 0) i).1)), (3, .int ((mcr (up σ 111 0 0) i).2.1)), (4, .int ((mcr (up σ 111 0 0) i).2.2)), (5, .int (nI i))] [] := by
    intro N9
    induction N9 using Nat.strongRecOn with
    | _ N9 ih40 =>
      intro i hi_i hm40
      refine j_iload hx d_Mo_carriers_40 5 rfl ?_
      refine j_aload_n hx d_Mo_carriers_42 rfl 0 rfl ?_
      refine j_get hx ck_Mo 12 (by decide) t_1430 (by decide) (sh_111 _ _) rfl d_Mo_carriers_43 ?_
      refine j_iconst (v := 0) hx d_Mo_carriers_46 (by decide) ?_
      have hz47_1 : zin (0) 6 0 := by first | exact ⟨rfl, by decide⟩ | exact zin_nI (by omega) (by decide) | exact zin_of (by omega) (by omega)
      refine j_ialdk hx ia_115 hz47_1 d_Mo_carriers_47 ?_
      refine j_icmp_ge (tgt := 140) hx d_Mo_carriers_48 (by decide) (fun zc48 => ?_) (fun zc48 => ?_)
      · skip
        obtain rfl := ct_end' hi_i zc48
        refine j_iload_n hx d_Mo_carriers_140 rfl 1 rfl ?_
        refine j_if_ne (tgt := 148) hx d_Mo_carriers_141 (by decide) (fun zc141 => ?_) (fun zc141 => ?_)
        · skip
          refine j_iload_n hx d_Mo_carriers_148 rfl 1 rfl ?_
          refine j_iconst (v := 1) hx d_Mo_carriers_149 (by decide) ?_
          refine j_icmp_ne (tgt := 157) hx d_Mo_carriers_150 (by decide) (fun zc150 => ?_) (fun zc150 => ?_)
          · skip
            refine j_iload hx d_Mo_carriers_157 4 rfl ?_
            exact j_iret hx hq rfl d_Mo_carriers_159 (by first | (unfold mca3; first | exact (if_pos zc141).symm | (rw [if_neg zc141]; first | exact (if_pos zc150).symm | exact (if_neg zc150).symm)) | fail) (by first | (rfl) | fail)
          · skip
            refine j_iload_n hx d_Mo_carriers_153 rfl 3 rfl ?_
            refine j_goto (tgt := 159) hx d_Mo_carriers_154 (by decide) ?_
            exact j_iret hx hq rfl d_Mo_carriers_159 (by first | (unfold mca3; first | exact (if_pos zc141).symm | (rw [if_neg zc141]; first | exact (if_pos zc150).symm | exact (if_neg zc150).symm)) | fail) (by first | (rfl) | fail)
        · skip
          refine j_iload_n hx d_Mo_carriers_144 rfl 2 rfl ?_
          refine j_goto (tgt := 159) hx d_Mo_carriers_145 (by decide) ?_
          exact j_iret hx hq rfl d_Mo_carriers_159 (by first | (unfold mca3; first | exact (if_pos zc141).symm | (rw [if_neg zc141]; first | exact (if_pos zc150).symm | exact (if_neg zc150).symm)) | fail) (by first | (rfl) | fail)
      · skip
        have hlt40 := ct_go hi_i zc48
        refine j_iconst (v := 0) hx d_Mo_carriers_51 (by decide) ?_
        refine j_istore hx [(6, .int 0), (0, .ref (G.1 111)), (1, .int w), (2, .int ((mcr (up σ 111 0 0) i).1)), (3, .int ((mcr (up σ 111 0 0) i).2.1)), (4, .int ((mcr (up σ 111 0 0) i).2.2)), (5, .int (nI i))] d_Mo_carriers_52 (by decide) rfl ?_
        have hl54 : ∀ (N9 : Nat) (j : Nat), (j ≤ (ct ((up σ 111 0 0) 115 0))) → (ct ((up σ 111 0 0) 115 0)) - j = N9 → J l G X 7 (up σ 111 0 0) 54 [(0, .ref (G.1 111)), (1, .int w), (2, .int ((mcrA (up σ 111 0 0) i j (mcr (up σ 111 0 0) i)).1)), (3, .int ((mcrA (up σ 111 0 0) i j (mcr (up σ 111 0 0) i)).2.1)), (4, .int ((mcrA (up σ 111 0 0) i j (mcr (up σ 111 0 0) i)).2.2)), (5, .int (nI i)), (6, .int (nI j))] [] := by
          intro N9
          induction N9 using Nat.strongRecOn with
          | _ N9 ih54 =>
            intro j hi_j hm54
            refine j_iload hx d_Mo_carriers_54 6 rfl ?_
            refine j_aload_n hx d_Mo_carriers_56 rfl 0 rfl ?_
            refine j_get hx ck_Mo 12 (by decide) t_1430 (by decide) (sh_111 _ _) rfl d_Mo_carriers_57 ?_
            refine j_iconst (v := 0) hx d_Mo_carriers_60 (by decide) ?_
            have hz61_2 : zin (0) 6 0 := by first | exact ⟨rfl, by decide⟩ | exact zin_nI (by omega) (by decide) | exact zin_of (by omega) (by omega)
            refine j_ialdk hx ia_115 hz61_2 d_Mo_carriers_61 ?_
            refine j_icmp_ge (tgt := 134) hx d_Mo_carriers_62 (by decide) (fun zc62 => ?_) (fun zc62 => ?_)
            · skip
              obtain rfl := ct_end' hi_j zc62
              refine j_iinc hx [(5, .int ((nI i) + 1)), (0, .ref (G.1 111)), (1, .int w), (2, .int ((mcrA (up σ 111 0 0) i (ct ((up σ 111 0 0) 115 0)) (mcr (up σ 111 0 0) i)).1)), (3, .int ((mcrA (up σ 111 0 0) i (ct ((up σ 111 0 0) 115 0)) (mcr (up σ 111 0 0) i)).2.1)), (4, .int ((mcrA (up σ 111 0 0) i (ct ((up σ 111 0 0) 115 0)) (mcr (up σ 111 0 0) i)).2.2)), (6, .int (nI (ct ((up σ 111 0 0) 115 0))))] d_Mo_carriers_134 5 rfl rfl (by decide) rfl ?_
              refine j_goto (tgt := 40) hx d_Mo_carriers_137 (by decide) ?_
              refine J.lsub (ls' := [(0, .ref (G.1 111)), (1, .int w), (2, .int ((mcrA (up σ 111 0 0) i (ct ((up σ 111 0 0) 115 0)) (mcr (up σ 111 0 0) i)).1)), (3, .int ((mcrA (up σ 111 0 0) i (ct ((up σ 111 0 0) 115 0)) (mcr (up σ 111 0 0) i)).2.1)), (4, .int ((mcrA (up σ 111 0 0) i (ct ((up σ 111 0 0) 115 0)) (mcr (up σ 111 0 0) i)).2.2)), (5, .int ((nI i) + 1))]) [1, 2, 3, 4, 5, 0] rfl ?_
              refine J.to ?_ ?_ (ih40 _ ?_ (i + 1) hlt40 rfl)
              · first | (first | rfl | (simp [zc48, zc62]; done)) | fail
              · first | (simp only [nI_s]; rfl) | fail
              · first | (omega) | fail
            · skip
              have hlt54 := ct_go hi_j zc62
              refine j_aload_n hx d_Mo_carriers_65 rfl 0 rfl ?_
              refine j_get hx ck_Mo 14 (by decide) t_1432 (by decide) (sh_111 _ _) rfl d_Mo_carriers_66 ?_
              refine j_iload hx d_Mo_carriers_69 5 rfl ?_
              have hz71_3 : zin (nI i) 12 i := by first | exact ⟨rfl, by decide⟩ | exact zin_nI (by omega) (by decide) | exact zin_of (by omega) (by omega)
              refine j_ialdk hx ia_117 hz71_3 d_Mo_carriers_71 ?_
              refine j_if_eq (tgt := 128) hx d_Mo_carriers_72 (by decide) (fun zc72 => ?_) (fun zc72 => ?_)
              · skip
                refine j_iinc hx [(6, .int ((nI j) + 1)), (0, .ref (G.1 111)), (1, .int w), (2, .int ((mcrA (up σ 111 0 0) i j (mcr (up σ 111 0 0) i)).1)), (3, .int ((mcrA (up σ 111 0 0) i j (mcr (up σ 111 0 0) i)).2.1)), (4, .int ((mcrA (up σ 111 0 0) i j (mcr (up σ 111 0 0) i)).2.2)), (5, .int (nI i))] d_Mo_carriers_128 6 rfl rfl (by decide) rfl ?_
                refine j_goto (tgt := 54) hx d_Mo_carriers_131 (by decide) ?_
                refine J.lsub (ls' := [(0, .ref (G.1 111)), (1, .int w), (2, .int ((mcrA (up σ 111 0 0) i j (mcr (up σ 111 0 0) i)).1)), (3, .int ((mcrA (up σ 111 0 0) i j (mcr (up σ 111 0 0) i)).2.1)), (4, .int ((mcrA (up σ 111 0 0) i j (mcr (up σ 111 0 0) i)).2.2)), (5, .int (nI i)), (6, .int ((nI j) + 1))]) [1, 2, 3, 4, 5, 6, 0] rfl ?_
                refine J.to ?_ ?_ (ih54 _ ?_ (j + 1) hlt54 rfl)
                · first | (first | rfl | (simp [zc48, zc62, zc72]; done)) | fail
                · first | (simp only [nI_s]; first | (rw [mcrA_1 (Or.inl zc72)]; done) | (rw [mcrA_1 (Or.inr zc83)]; done) | (rw [mcrA_2 zc72 zc83 zc90]; done) | (rw [mcrA_3 zc72 zc83 zc90]; done) | exact absurd zc109 zc90 | exact absurd zc90 zc109) | fail
                · first | (omega) | fail
              · skip
                refine j_aload_n hx d_Mo_carriers_75 rfl 0 rfl ?_
                refine j_iload hx d_Mo_carriers_76 5 rfl ?_
                refine j_iload hx d_Mo_carriers_78 6 rfl ?_
                refine j_callVi hx (c_Mo_isRest hG (up σ 111 0 0) i j (by exact hw) (by omega)) mo_Mo_isRest mv_Mo_isRest t_1891 (by decide) rfl (by decide) (sh_111 _ _) rfl rfl (Nat.le_of_ble_eq_true rfl) d_Mo_carriers_80 ?_
                refine j_if_ne (tgt := 89) hx d_Mo_carriers_83 (by decide) (fun zc83 => ?_) (fun zc83 => ?_)
                · skip
                  refine j_iload_n hx d_Mo_carriers_89 rfl 2 rfl ?_
                  refine j_if_ne (tgt := 104) hx d_Mo_carriers_90 (by decide) (fun zc90 => ?_) (fun zc90 => ?_)
                  · skip
                    refine j_iload hx d_Mo_carriers_104 4 rfl ?_
                    refine j_istore hx [(4, .int ((mcrA (up σ 111 0 0) i j (mcr (up σ 111 0 0) i)).2.2)), (0, .ref (G.1 111)), (1, .int w), (2, .int ((mcrA (up σ 111 0 0) i j (mcr (up σ 111 0 0) i)).1)), (3, .int ((mcrA (up σ 111 0 0) i j (mcr (up σ 111 0 0) i)).2.1)), (5, .int (nI i)), (6, .int (nI j))] d_Mo_carriers_106 (by decide) rfl ?_
                    refine j_iload_n hx d_Mo_carriers_108 rfl 3 rfl ?_
                    refine j_if_ne (tgt := 123) hx d_Mo_carriers_109 (by decide) (fun zc109 => ?_) (fun zc109 => ?_)
                    · skip
                      refine j_iload_n hx d_Mo_carriers_123 rfl 4 rfl ?_
                      refine j_istore_n hx [(3, .int ((mcrA (up σ 111 0 0) i j (mcr (up σ 111 0 0) i)).2.1)), (4, .int ((mcrA (up σ 111 0 0) i j (mcr (up σ 111 0 0) i)).2.2)), (0, .ref (G.1 111)), (1, .int w), (2, .int ((mcrA (up σ 111 0 0) i j (mcr (up σ 111 0 0) i)).1)), (5, .int (nI i)), (6, .int (nI j))] d_Mo_carriers_124 rfl (by decide) rfl ?_
                      refine j_iinc hx [(2, .int (((mcrA (up σ 111 0 0) i j (mcr (up σ 111 0 0) i)).1) + 1)), (3, .int ((mcrA (up σ 111 0 0) i j (mcr (up σ 111 0 0) i)).2.1)), (4, .int ((mcrA (up σ 111 0 0) i j (mcr (up σ 111 0 0) i)).2.2)), (0, .ref (G.1 111)), (1, .int w), (5, .int (nI i)), (6, .int (nI j))] d_Mo_carriers_125 4 rfl rfl (by decide) rfl ?_
                      refine j_iinc hx [(6, .int ((nI j) + 1)), (2, .int (((mcrA (up σ 111 0 0) i j (mcr (up σ 111 0 0) i)).1) + 1)), (3, .int ((mcrA (up σ 111 0 0) i j (mcr (up σ 111 0 0) i)).2.1)), (4, .int ((mcrA (up σ 111 0 0) i j (mcr (up σ 111 0 0) i)).2.2)), (0, .ref (G.1 111)), (1, .int w), (5, .int (nI i))] d_Mo_carriers_128 6 rfl rfl (by decide) rfl ?_
                      refine j_goto (tgt := 54) hx d_Mo_carriers_131 (by decide) ?_
                      refine J.lsub (ls' := [(0, .ref (G.1 111)), (1, .int w), (2, .int (((mcrA (up σ 111 0 0) i j (mcr (up σ 111 0 0) i)).1) + 1)), (3, .int ((mcrA (up σ 111 0 0) i j (mcr (up σ 111 0 0) i)).2.1)), (4, .int ((mcrA (up σ 111 0 0) i j (mcr (up σ 111 0 0) i)).2.2)), (5, .int (nI i)), (6, .int ((nI j) + 1))]) [4, 5, 1, 2, 3, 6, 0] rfl ?_
                      refine J.to ?_ ?_ (ih54 _ ?_ (j + 1) hlt54 rfl)
                      · first | (first | rfl | (simp [zc48, zc62, zc72, zc83, zc90, zc109]; done)) | fail
                      · first | (simp only [nI_s]; first | (rw [mcrA_1 (Or.inl zc72)]; done) | (rw [mcrA_1 (Or.inr zc83)]; done) | (rw [mcrA_2 zc72 zc83 zc90]; done) | (rw [mcrA_3 zc72 zc83 zc90]; done) | exact absurd zc109 zc90 | exact absurd zc90 zc109) | fail
                      · first | (omega) | fail
                    · skip
                      refine j_bipush (v := 100) hx d_Mo_carriers_112 (by decide) ?_
                      refine j_iload hx d_Mo_carriers_114 5 rfl ?_
                      refine j_imul hx d_Mo_carriers_116 ?_
                      refine j_iload hx d_Mo_carriers_117 6 rfl ?_
                      refine j_iadd hx d_Mo_carriers_119 ?_
                      refine j_goto (tgt := 124) hx d_Mo_carriers_120 (by decide) ?_
                      refine j_istore_n hx [(3, .int ((100 * (nI i)) + (nI j))), (4, .int ((mcrA (up σ 111 0 0) i j (mcr (up σ 111 0 0) i)).2.2)), (0, .ref (G.1 111)), (1, .int w), (2, .int ((mcrA (up σ 111 0 0) i j (mcr (up σ 111 0 0) i)).1)), (5, .int (nI i)), (6, .int (nI j))] d_Mo_carriers_124 rfl (by decide) rfl ?_
                      refine j_iinc hx [(2, .int (((mcrA (up σ 111 0 0) i j (mcr (up σ 111 0 0) i)).1) + 1)), (3, .int ((100 * (nI i)) + (nI j))), (4, .int ((mcrA (up σ 111 0 0) i j (mcr (up σ 111 0 0) i)).2.2)), (0, .ref (G.1 111)), (1, .int w), (5, .int (nI i)), (6, .int (nI j))] d_Mo_carriers_125 4 rfl rfl (by decide) rfl ?_
                      refine j_iinc hx [(6, .int ((nI j) + 1)), (2, .int (((mcrA (up σ 111 0 0) i j (mcr (up σ 111 0 0) i)).1) + 1)), (3, .int ((100 * (nI i)) + (nI j))), (4, .int ((mcrA (up σ 111 0 0) i j (mcr (up σ 111 0 0) i)).2.2)), (0, .ref (G.1 111)), (1, .int w), (5, .int (nI i))] d_Mo_carriers_128 6 rfl rfl (by decide) rfl ?_
                      refine j_goto (tgt := 54) hx d_Mo_carriers_131 (by decide) ?_
                      refine J.lsub (ls' := [(0, .ref (G.1 111)), (1, .int w), (2, .int (((mcrA (up σ 111 0 0) i j (mcr (up σ 111 0 0) i)).1) + 1)), (3, .int ((100 * (nI i)) + (nI j))), (4, .int ((mcrA (up σ 111 0 0) i j (mcr (up σ 111 0 0) i)).2.2)), (5, .int (nI i)), (6, .int ((nI j) + 1))]) [4, 5, 1, 2, 3, 6, 0] rfl ?_
                      refine J.to ?_ ?_ (ih54 _ ?_ (j + 1) hlt54 rfl)
                      · first | (first | rfl | (simp [zc48, zc62, zc72, zc83, zc90, zc109]; done)) | fail
                      · first | (simp only [nI_s]; first | (rw [mcrA_1 (Or.inl zc72)]; done) | (rw [mcrA_1 (Or.inr zc83)]; done) | (rw [mcrA_2 zc72 zc83 zc90]; done) | (rw [mcrA_3 zc72 zc83 zc90]; done) | exact absurd zc109 zc90 | exact absurd zc90 zc109) | fail
                      · first | (omega) | fail
                  · skip
                    refine j_aload_n hx d_Mo_carriers_93 rfl 0 rfl ?_
                    refine j_iload hx d_Mo_carriers_94 5 rfl ?_
                    refine j_iload hx d_Mo_carriers_96 6 rfl ?_
                    refine j_callVi hx (c_Mo_carry hG (up σ 111 0 0) i (nI j) (by omega)) mo_Mo_carry mv_Mo_carry t_1895 (by decide) rfl (by decide) (sh_111 _ _) rfl rfl (Nat.le_of_ble_eq_true rfl) d_Mo_carriers_98 ?_
                    refine j_goto (tgt := 106) hx d_Mo_carriers_101 (by decide) ?_
                    refine j_istore hx [(4, .int (mca (up σ 111 0 0) i (nI j))), (0, .ref (G.1 111)), (1, .int w), (2, .int ((mcrA (up σ 111 0 0) i j (mcr (up σ 111 0 0) i)).1)), (3, .int ((mcrA (up σ 111 0 0) i j (mcr (up σ 111 0 0) i)).2.1)), (5, .int (nI i)), (6, .int (nI j))] d_Mo_carriers_106 (by decide) rfl ?_
                    refine j_iload_n hx d_Mo_carriers_108 rfl 3 rfl ?_
                    refine j_if_ne (tgt := 123) hx d_Mo_carriers_109 (by decide) (fun zc109 => ?_) (fun zc109 => ?_)
                    · skip
                      refine j_iload_n hx d_Mo_carriers_123 rfl 4 rfl ?_
                      refine j_istore_n hx [(3, .int ((mcrA (up σ 111 0 0) i j (mcr (up σ 111 0 0) i)).2.1)), (4, .int (mca (up σ 111 0 0) i (nI j))), (0, .ref (G.1 111)), (1, .int w), (2, .int ((mcrA (up σ 111 0 0) i j (mcr (up σ 111 0 0) i)).1)), (5, .int (nI i)), (6, .int (nI j))] d_Mo_carriers_124 rfl (by decide) rfl ?_
                      refine j_iinc hx [(2, .int (((mcrA (up σ 111 0 0) i j (mcr (up σ 111 0 0) i)).1) + 1)), (3, .int ((mcrA (up σ 111 0 0) i j (mcr (up σ 111 0 0) i)).2.1)), (4, .int (mca (up σ 111 0 0) i (nI j))), (0, .ref (G.1 111)), (1, .int w), (5, .int (nI i)), (6, .int (nI j))] d_Mo_carriers_125 4 rfl rfl (by decide) rfl ?_
                      refine j_iinc hx [(6, .int ((nI j) + 1)), (2, .int (((mcrA (up σ 111 0 0) i j (mcr (up σ 111 0 0) i)).1) + 1)), (3, .int ((mcrA (up σ 111 0 0) i j (mcr (up σ 111 0 0) i)).2.1)), (4, .int (mca (up σ 111 0 0) i (nI j))), (0, .ref (G.1 111)), (1, .int w), (5, .int (nI i))] d_Mo_carriers_128 6 rfl rfl (by decide) rfl ?_
                      refine j_goto (tgt := 54) hx d_Mo_carriers_131 (by decide) ?_
                      refine J.lsub (ls' := [(0, .ref (G.1 111)), (1, .int w), (2, .int (((mcrA (up σ 111 0 0) i j (mcr (up σ 111 0 0) i)).1) + 1)), (3, .int ((mcrA (up σ 111 0 0) i j (mcr (up σ 111 0 0) i)).2.1)), (4, .int (mca (up σ 111 0 0) i (nI j))), (5, .int (nI i)), (6, .int ((nI j) + 1))]) [4, 5, 1, 2, 3, 6, 0] rfl ?_
                      refine J.to ?_ ?_ (ih54 _ ?_ (j + 1) hlt54 rfl)
                      · first | (first | rfl | (simp [zc48, zc62, zc72, zc83, zc90, zc109]; done)) | fail
                      · first | (simp only [nI_s]; first | (rw [mcrA_1 (Or.inl zc72)]; done) | (rw [mcrA_1 (Or.inr zc83)]; done) | (rw [mcrA_2 zc72 zc83 zc90]; done) | (rw [mcrA_3 zc72 zc83 zc90]; done) | exact absurd zc109 zc90 | exact absurd zc90 zc109) | fail
                      · first | (omega) | fail
                    · skip
                      refine j_bipush (v := 100) hx d_Mo_carriers_112 (by decide) ?_
                      refine j_iload hx d_Mo_carriers_114 5 rfl ?_
                      refine j_imul hx d_Mo_carriers_116 ?_
                      refine j_iload hx d_Mo_carriers_117 6 rfl ?_
                      refine j_iadd hx d_Mo_carriers_119 ?_
                      refine j_goto (tgt := 124) hx d_Mo_carriers_120 (by decide) ?_
                      refine j_istore_n hx [(3, .int ((100 * (nI i)) + (nI j))), (4, .int (mca (up σ 111 0 0) i (nI j))), (0, .ref (G.1 111)), (1, .int w), (2, .int ((mcrA (up σ 111 0 0) i j (mcr (up σ 111 0 0) i)).1)), (5, .int (nI i)), (6, .int (nI j))] d_Mo_carriers_124 rfl (by decide) rfl ?_
                      refine j_iinc hx [(2, .int (((mcrA (up σ 111 0 0) i j (mcr (up σ 111 0 0) i)).1) + 1)), (3, .int ((100 * (nI i)) + (nI j))), (4, .int (mca (up σ 111 0 0) i (nI j))), (0, .ref (G.1 111)), (1, .int w), (5, .int (nI i)), (6, .int (nI j))] d_Mo_carriers_125 4 rfl rfl (by decide) rfl ?_
                      refine j_iinc hx [(6, .int ((nI j) + 1)), (2, .int (((mcrA (up σ 111 0 0) i j (mcr (up σ 111 0 0) i)).1) + 1)), (3, .int ((100 * (nI i)) + (nI j))), (4, .int (mca (up σ 111 0 0) i (nI j))), (0, .ref (G.1 111)), (1, .int w), (5, .int (nI i))] d_Mo_carriers_128 6 rfl rfl (by decide) rfl ?_
                      refine j_goto (tgt := 54) hx d_Mo_carriers_131 (by decide) ?_
                      refine J.lsub (ls' := [(0, .ref (G.1 111)), (1, .int w), (2, .int (((mcrA (up σ 111 0 0) i j (mcr (up σ 111 0 0) i)).1) + 1)), (3, .int ((100 * (nI i)) + (nI j))), (4, .int (mca (up σ 111 0 0) i (nI j))), (5, .int (nI i)), (6, .int ((nI j) + 1))]) [4, 5, 1, 2, 3, 6, 0] rfl ?_
                      refine J.to ?_ ?_ (ih54 _ ?_ (j + 1) hlt54 rfl)
                      · first | (first | rfl | (simp [zc48, zc62, zc72, zc83, zc90, zc109]; done)) | fail
                      · first | (simp only [nI_s]; first | (rw [mcrA_1 (Or.inl zc72)]; done) | (rw [mcrA_1 (Or.inr zc83)]; done) | (rw [mcrA_2 zc72 zc83 zc90]; done) | (rw [mcrA_3 zc72 zc83 zc90]; done) | exact absurd zc109 zc90 | exact absurd zc90 zc109) | fail
                      · first | (omega) | fail
                · skip
                  refine j_goto (tgt := 128) hx d_Mo_carriers_86 (by decide) ?_
                  refine j_iinc hx [(6, .int ((nI j) + 1)), (0, .ref (G.1 111)), (1, .int w), (2, .int ((mcrA (up σ 111 0 0) i j (mcr (up σ 111 0 0) i)).1)), (3, .int ((mcrA (up σ 111 0 0) i j (mcr (up σ 111 0 0) i)).2.1)), (4, .int ((mcrA (up σ 111 0 0) i j (mcr (up σ 111 0 0) i)).2.2)), (5, .int (nI i))] d_Mo_carriers_128 6 rfl rfl (by decide) rfl ?_
                  refine j_goto (tgt := 54) hx d_Mo_carriers_131 (by decide) ?_
                  refine J.lsub (ls' := [(0, .ref (G.1 111)), (1, .int w), (2, .int ((mcrA (up σ 111 0 0) i j (mcr (up σ 111 0 0) i)).1)), (3, .int ((mcrA (up σ 111 0 0) i j (mcr (up σ 111 0 0) i)).2.1)), (4, .int ((mcrA (up σ 111 0 0) i j (mcr (up σ 111 0 0) i)).2.2)), (5, .int (nI i)), (6, .int ((nI j) + 1))]) [1, 2, 3, 4, 5, 6, 0] rfl ?_
                  refine J.to ?_ ?_ (ih54 _ ?_ (j + 1) hlt54 rfl)
                  · first | (first | rfl | (simp [zc48, zc62, zc72, zc83]; done)) | fail
                  · first | (simp only [nI_s]; first | (rw [mcrA_1 (Or.inl zc72)]; done) | (rw [mcrA_1 (Or.inr zc83)]; done) | (rw [mcrA_2 zc72 zc83 zc90]; done) | (rw [mcrA_3 zc72 zc83 zc90]; done) | exact absurd zc109 zc90 | exact absurd zc90 zc109) | fail
                  · first | (omega) | fail
        refine J.lsub (ls' := [(0, .ref (G.1 111)), (1, .int w), (2, .int ((mcr (up σ 111 0 0) i).1)), (3, .int ((mcr (up σ 111 0 0) i).2.1)), (4, .int ((mcr (up σ 111 0 0) i).2.2)), (5, .int (nI i)), (6, .int 0)]) [1, 2, 3, 4, 5, 6, 0] rfl ?_
        refine J.to ?_ ?_ (hl54 _ 0 (Nat.zero_le _) rfl)
        · first | (first | rfl | (simp [zc48]; done)) | fail
        · first | (rfl) | fail
  refine J.lsub (ls' := [(0, .ref (G.1 111)), (1, .int w), (2, .int 0), (3, .int ((-1))), (4, .int 0), (5, .int 0)]) [4, 5, 3, 2, 1, 0] rfl ?_
  refine J.to ?_ ?_ (hl40 _ 0 (Nat.zero_le _) rfl)
  · first | (first | rfl | (simp []; done)) | fail
  · first | (rfl) | fail

set_option maxRecDepth 20000 in
set_option maxHeartbeats 4000000 in
theorem c_Mo_carriersI {l : Launch} {G : Gz} (hG : zI G) (σ : St) (w : Int32) (hbad : ¬ (0 ≤ w ∧ w ≤ 2)) : MI l G y_Mo_carriers prog_14_method_90_code 7 .int 4 [.ref (G.1 111), .int w] σ 0 (mrf σ 1 1) := by
  refine MI.of hG (by decide) (Nat.le_of_ble_eq_true rfl) (fun X hx hq => ?_)
  show J l G X 7 σ 0 [(0, .ref (G.1 111)), (1, .int w)] []
  refine j_aload_n hx d_Mo_carriers_0 rfl 0 rfl ?_
  refine j_iconst (v := 0) hx d_Mo_carriers_1 (by decide) ?_
  refine j_put hx ck_Mo 0 (by decide) t_1418 (by decide) (sh_111 _ _) rfl (Nat.le_of_ble_eq_true rfl) (sh_111 _ _) d_Mo_carriers_2 ?_
  refine j_aload_n hx d_Mo_carriers_5 rfl 0 rfl ?_
  refine j_iload_n hx d_Mo_carriers_6 rfl 1 rfl ?_
  refine j_iconst (v := 0) hx d_Mo_carriers_7 (by decide) ?_
  refine j_iconst (v := 2) hx d_Mo_carriers_8 (by decide) ?_
  refine j_callSi hx (c_Mo_in0 hG (up σ 111 0 0) w 0 2 (by exact hbad)) mo_Mo_in t_1582 t_1581 (by decide) rfl rfl (Nat.le_of_ble_eq_true rfl) d_Mo_carriers_9 ?_
  refine j_if_ne (tgt := 19) hx d_Mo_carriers_12 (by decide) (fun zc12 => absurd rfl zc12) (fun _ => ?_)
  refine j_iconst (v := 1) hx d_Mo_carriers_15 (by decide) ?_
  refine j_goto (tgt := 20) hx d_Mo_carriers_16 (by decide) ?_
  refine j_iconst (v := 1) hx d_Mo_carriers_20 (by decide) ?_
  refine j_iconst (v := 1) hx d_Mo_carriers_21 (by decide) ?_
  refine j_callVi hx (c_Mo_bad1 hG (up σ 111 0 0) 1 1 1 (by decide) (by exact up_rd) (by decide) (by decide)) mo_Mo_bad mv_Mo_bad t_1584 (by decide) rfl (by decide) (sh_111 _ _) rfl rfl (Nat.le_of_ble_eq_true rfl) d_Mo_carriers_22 ?_
  refine j_if_eq (tgt := 30) hx d_Mo_carriers_25 (by decide) (fun zc25 => absurd zc25 (by decide)) (fun _ => ?_)
  refine j_iconst (v := 0) hx d_Mo_carriers_28 (by decide) ?_
  exact j_iret hx hq rfl d_Mo_carriers_29 (by first | (rfl) | fail) (by first | (rfl) | fail)

set_option maxRecDepth 20000 in
set_option maxHeartbeats 4000000 in
theorem c_Mo_share {l : Launch} {G : Gz} (hG : zI G) (σ : St) (d : Nat) (n : Int32) (hw : mW (up σ 111 0 0)) (hz : ¬ mhd (up σ 111 0 0) (ct ((up σ 111 0 0) 115 4)) = 0) (hc9 : d < ct ((up σ 111 0 0) 115 4)) (hv26 : 0 ≤ n ∧ n ≤ 999) : MI l G y_Mo_share prog_14_method_92_code 9 .int 9 [.ref (G.1 111), .int (nI d), .int n] σ (msr (up σ 111 0 0) d n) (t0 σ) := by
  refine MI.of hG (by decide) (Nat.le_of_ble_eq_true rfl) (fun X hx hq => ?_)
  show J l G X 9 σ 0 [(0, .ref (G.1 111)), (1, .int (nI d)), (2, .int n)] []
  have hb1 : ct ((up σ 111 0 0) 115 1) ≤ 6 := hw.1.2.1
  have hb2 : ct ((up σ 111 0 0) 115 2) ≤ 3 := hw.1.2.2.1
  have hb0 : ct ((up σ 111 0 0) 115 0) ≤ 12 := hw.1.1
  have hb3 : ct ((up σ 111 0 0) 115 3) ≤ 6 := hw.1.2.2.2.1
  have hb4 : ct ((up σ 111 0 0) 115 4) ≤ 6 := hw.1.2.2.2.2
  refine j_aload_n hx d_Mo_share_0 rfl 0 rfl ?_
  refine j_iconst (v := 0) hx d_Mo_share_1 (by decide) ?_
  refine j_put hx ck_Mo 0 (by decide) t_1418 (by decide) (sh_111 _ _) rfl (Nat.le_of_ble_eq_true rfl) (sh_111 _ _) d_Mo_share_2 ?_
  refine j_aload_n hx d_Mo_share_5 rfl 0 rfl ?_
  refine j_aload_n hx d_Mo_share_6 rfl 0 rfl ?_
  refine j_iconst (v := 4) hx d_Mo_share_7 (by decide) ?_
  refine j_iload_n hx d_Mo_share_8 rfl 1 rfl ?_
  refine j_callVi hx (c_Mo_isNo1 hG (up σ 111 0 0) 4 (nI d) (by decide) (by exact vkz hc9)) mo_Mo_isNo mv_Mo_isNo t_1789 (by decide) rfl (by decide) (sh_111 _ _) rfl rfl (Nat.le_of_ble_eq_true rfl) d_Mo_share_9 ?_
  refine j_iconst (v := 1) hx d_Mo_share_12 (by decide) ?_
  refine j_iconst (v := 0) hx d_Mo_share_13 (by decide) ?_
  refine j_callVi hx (c_Mo_bad0 hG (up σ 111 0 0) 0 1 0 (by rfl) (by exact up_rd)) mo_Mo_bad mv_Mo_bad t_1584 (by decide) rfl (by decide) (sh_111 _ _) rfl rfl (Nat.le_of_ble_eq_true rfl) d_Mo_share_14 ?_
  refine j_if_ne (tgt := 45) hx d_Mo_share_17 (by decide) (fun zc17 => absurd rfl zc17) (fun _ => ?_)
  refine j_aload_n hx d_Mo_share_20 rfl 0 rfl ?_
  refine j_iload_n hx d_Mo_share_21 rfl 2 rfl ?_
  refine j_iconst (v := 0) hx d_Mo_share_22 (by decide) ?_
  refine j_sipush (v := 999) hx d_Mo_share_23 (by decide) ?_
  refine j_callSi hx (c_Mo_in1 hG (up σ 111 0 0) n 0 999 (by exact hv26)) mo_Mo_in t_1582 t_1581 (by decide) rfl rfl (Nat.le_of_ble_eq_true rfl) d_Mo_share_26 ?_
  refine j_if_ne (tgt := 36) hx d_Mo_share_29 (by decide) (fun _ => ?_) (fun zc29 => absurd zc29 (by decide))
  refine j_iconst (v := 0) hx d_Mo_share_36 (by decide) ?_
  refine j_iconst (v := 2) hx d_Mo_share_37 (by decide) ?_
  refine j_iconst (v := 1) hx d_Mo_share_38 (by decide) ?_
  refine j_callVi hx (c_Mo_bad0 hG (up σ 111 0 0) 0 2 1 (by rfl) (by exact up_rd)) mo_Mo_bad mv_Mo_bad t_1584 (by decide) rfl (by decide) (sh_111 _ _) rfl rfl (Nat.le_of_ble_eq_true rfl) d_Mo_share_39 ?_
  refine j_if_eq (tgt := 47) hx d_Mo_share_42 (by decide) (fun _ => ?_) (fun zc42 => absurd (by decide) zc42)
  refine j_aload_n hx d_Mo_share_47 rfl 0 rfl ?_
  refine j_callVi hx (c_Mo_headsIn hG (up σ 111 0 0) (by exact hw)) mo_Mo_headsIn mv_Mo_headsIn t_1903 (by decide) rfl (by decide) (sh_111 _ _) rfl rfl (Nat.le_of_ble_eq_true rfl) d_Mo_share_48 ?_
  refine j_istore_n hx [(3, .int (mhd (up σ 111 0 0) (tl (up σ 111 0 0) 4))), (0, .ref (G.1 111)), (1, .int (nI d)), (2, .int n)] d_Mo_share_51 rfl (by decide) rfl ?_
  refine j_iload_n hx d_Mo_share_52 rfl 3 rfl ?_
  refine j_istore hx [(4, .int n), (3, .int (mhd (up σ 111 0 0) (tl (up σ 111 0 0) 4))), (0, .ref (G.1 111)), (1, .int (nI d)), (2, .int n)] d_Mo_share_53 (by decide) rfl ?_
  refine j_iconst (v := 0) hx d_Mo_share_55 (by decide) ?_
  refine j_istore hx [(5, .int 0), (4, .int n), (3, .int (mhd (up σ 111 0 0) (tl (up σ 111 0 0) 4))), (0, .ref (G.1 111)), (1, .int (nI d)), (2, .int n)] d_Mo_share_56 (by decide) rfl ?_
  refine j_iconst (v := 0) hx d_Mo_share_58 (by decide) ?_
  refine j_istore hx [(6, .int 0), (5, .int 0), (4, .int n), (3, .int (mhd (up σ 111 0 0) (tl (up σ 111 0 0) 4))), (0, .ref (G.1 111)), (1, .int (nI d)), (2, .int n)] d_Mo_share_59 (by decide) rfl ?_
  have hl61 : ∀ (N9 : Nat) (i : Nat), (i ≤ (ct ((up σ 111 0 0) 115 4))) → (ct ((up σ 111 0 0) 115 4)) - i = N9 → J l G X 9 (up σ 111 0 0) 61 [(0, .ref (G.1 111)), (1, .int (nI d)), (2, .int n), (3, .int (mhd (up σ 111 0 0) (tl (up σ 111 0 0) 4))), (4, .int (msO (up σ 111 0 0) n (mhd (up σ 111 0 0) (ct ((up σ 111 0 0) 115 4))) i)), (5, .int (msA (up σ 111 0 0) d n (mhd (up σ 111 0 0) (ct ((up σ 111 0 0) 115 4))) i)), (6, .int (nI i))] [] := by
    intro N9
    induction N9 using Nat.strongRecOn with
    | _ N9 ih61 =>
      intro i hi_i hm61
      refine j_iload hx d_Mo_share_61 6 rfl ?_
      refine j_aload_n hx d_Mo_share_63 rfl 0 rfl ?_
      refine j_get hx ck_Mo 12 (by decide) t_1430 (by decide) (sh_111 _ _) rfl d_Mo_share_64 ?_
      refine j_iconst (v := 4) hx d_Mo_share_67 (by decide) ?_
      have hz68_1 : zin (4) 6 4 := by first | exact ⟨rfl, by decide⟩ | exact zin_nI (by omega) (by decide) | exact zin_of (by omega) (by omega)
      refine j_ialdk hx ia_115 hz68_1 d_Mo_share_68 ?_
      refine j_icmp_ge (tgt := 149) hx d_Mo_share_69 (by decide) (fun zc69 => ?_) (fun zc69 => ?_)
      · skip
        obtain rfl := ct_end' hi_i zc69
        refine j_iload_n hx d_Mo_share_149 rfl 2 rfl ?_
        refine j_aload_n hx d_Mo_share_150 rfl 0 rfl ?_
        refine j_get hx ck_Mo 16 (by decide) t_1434 (by decide) (sh_111 _ _) rfl d_Mo_share_151 ?_
        refine j_iload_n hx d_Mo_share_154 rfl 1 rfl ?_
        have hz155_2 : zin (nI d) 6 d := by first | exact ⟨rfl, by decide⟩ | exact zin_nI (by omega) (by decide) | exact zin_of (by omega) (by omega)
        refine j_ialdk hx ia_119 hz155_2 d_Mo_share_155 ?_
        refine j_imul hx d_Mo_share_156 ?_
        refine j_iload_n hx d_Mo_share_157 rfl 3 rfl ?_
        refine j_idiv hx d_Mo_share_158 (by exact hz) ?_
        refine j_iload hx d_Mo_share_159 5 rfl ?_
        refine j_iload hx d_Mo_share_161 4 rfl ?_
        refine j_icmp_ge (tgt := 170) hx d_Mo_share_163 (by decide) (fun zc163 => ?_) (fun zc163 => ?_)
        · skip
          refine j_iconst (v := 0) hx d_Mo_share_170 (by decide) ?_
          refine j_iadd hx d_Mo_share_171 ?_
          exact j_iret hx hq rfl d_Mo_share_172 (by first | (unfold msr; first | rw [b2_t (p := msA (up σ 111 0 0) d n (mhd (up σ 111 0 0) (ct ((up σ 111 0 0) 115 4))) (ct ((up σ 111 0 0) 115 4)) < msO (up σ 111 0 0) n (mhd (up σ 111 0 0) (ct ((up σ 111 0 0) 115 4))) (ct ((up σ 111 0 0) 115 4))) (i_nle zc163)] | rw [b2_f (p := msA (up σ 111 0 0) d n (mhd (up σ 111 0 0) (ct ((up σ 111 0 0) 115 4))) (ct ((up σ 111 0 0) 115 4)) < msO (up σ 111 0 0) n (mhd (up σ 111 0 0) (ct ((up σ 111 0 0) 115 4))) (ct ((up σ 111 0 0) 115 4))) (i_lelt zc163)]) | fail) (by first | (rfl) | fail)
        · skip
          refine j_iconst (v := 1) hx d_Mo_share_166 (by decide) ?_
          refine j_goto (tgt := 171) hx d_Mo_share_167 (by decide) ?_
          refine j_iadd hx d_Mo_share_171 ?_
          exact j_iret hx hq rfl d_Mo_share_172 (by first | (unfold msr; first | rw [b2_t (p := msA (up σ 111 0 0) d n (mhd (up σ 111 0 0) (ct ((up σ 111 0 0) 115 4))) (ct ((up σ 111 0 0) 115 4)) < msO (up σ 111 0 0) n (mhd (up σ 111 0 0) (ct ((up σ 111 0 0) 115 4))) (ct ((up σ 111 0 0) 115 4))) (i_nle zc163)] | rw [b2_f (p := msA (up σ 111 0 0) d n (mhd (up σ 111 0 0) (ct ((up σ 111 0 0) 115 4))) (ct ((up σ 111 0 0) 115 4)) < msO (up σ 111 0 0) n (mhd (up σ 111 0 0) (ct ((up σ 111 0 0) 115 4))) (ct ((up σ 111 0 0) 115 4))) (i_lelt zc163)]) | fail) (by first | (rfl) | fail)
      · skip
        have hlt61 := ct_go hi_i zc69
        refine j_iload hx d_Mo_share_72 4 rfl ?_
        refine j_iload_n hx d_Mo_share_74 rfl 2 rfl ?_
        refine j_aload_n hx d_Mo_share_75 rfl 0 rfl ?_
        refine j_get hx ck_Mo 16 (by decide) t_1434 (by decide) (sh_111 _ _) rfl d_Mo_share_76 ?_
        refine j_iload hx d_Mo_share_79 6 rfl ?_
        have hz81_3 : zin (nI i) 6 i := by first | exact ⟨rfl, by decide⟩ | exact zin_nI (by omega) (by decide) | exact zin_of (by omega) (by omega)
        refine j_ialdk hx ia_119 hz81_3 d_Mo_share_81 ?_
        refine j_imul hx d_Mo_share_82 ?_
        refine j_iload_n hx d_Mo_share_83 rfl 3 rfl ?_
        refine j_idiv hx d_Mo_share_84 (by exact hz) ?_
        refine j_isub hx d_Mo_share_85 ?_
        refine j_istore hx [(4, .int ((msO (up σ 111 0 0) n (mhd (up σ 111 0 0) (ct ((up σ 111 0 0) 115 4))) i) - ((n * ((up σ 111 0 0) 119 i)) / (mhd (up σ 111 0 0) (tl (up σ 111 0 0) 4))))), (0, .ref (G.1 111)), (1, .int (nI d)), (2, .int n), (3, .int (mhd (up σ 111 0 0) (tl (up σ 111 0 0) 4))), (5, .int (msA (up σ 111 0 0) d n (mhd (up σ 111 0 0) (ct ((up σ 111 0 0) 115 4))) i)), (6, .int (nI i))] d_Mo_share_86 (by decide) rfl ?_
        refine j_iload_n hx d_Mo_share_88 rfl 3 rfl ?_
        refine j_aload_n hx d_Mo_share_89 rfl 1 rfl ?_
        refine j_get hx ck_Mo 16 (by decide) t_1434 (by decide) (sh_111 _ _) rfl d_Mo_share_90 ?_
        refine j_iload_n hx d_Mo_share_93 rfl 2 rfl ?_
        have hz94_4 : zin (nI d) 6 d := by first | exact ⟨rfl, by decide⟩ | exact zin_nI (by omega) (by decide) | exact zin_of (by omega) (by omega)
        refine j_ialdk hx ia_119 hz94_4 d_Mo_share_94 ?_
        refine j_imul hx d_Mo_share_95 ?_
        refine j_iload_n hx d_Mo_share_96 rfl 4 rfl ?_
        refine j_irem hx d_Mo_share_97 (by exact hz) ?_
        refine j_istore hx [(7, .int ((n * ((up σ 111 0 0) 119 d)) - (n * ((up σ 111 0 0) 119 d)) / (mhd (up σ 111 0 0) (tl (up σ 111 0 0) 4)) * (mhd (up σ 111 0 0) (tl (up σ 111 0 0) 4)))), (4, .int ((msO (up σ 111 0 0) n (mhd (up σ 111 0 0) (ct ((up σ 111 0 0) 115 4))) i) - ((n * ((up σ 111 0 0) 119 i)) / (mhd (up σ 111 0 0) (tl (up σ 111 0 0) 4))))), (0, .ref (G.1 111)), (1, .int (nI d)), (2, .int n), (3, .int (mhd (up σ 111 0 0) (tl (up σ 111 0 0) 4))), (5, .int (msA (up σ 111 0 0) d n (mhd (up σ 111 0 0) (ct ((up σ 111 0 0) 115 4))) i)), (6, .int (nI i))] d_Mo_share_98 (by decide) rfl ?_
        refine j_iload_n hx d_Mo_share_100 rfl 4 rfl ?_
        refine j_aload_n hx d_Mo_share_101 rfl 2 rfl ?_
        refine j_get hx ck_Mo 16 (by decide) t_1434 (by decide) (sh_111 _ _) rfl d_Mo_share_102 ?_
        refine j_iload hx d_Mo_share_105 7 rfl ?_
        have hz107_5 : zin (nI i) 6 i := by first | exact ⟨rfl, by decide⟩ | exact zin_nI (by omega) (by decide) | exact zin_of (by omega) (by omega)
        refine j_ialdk hx ia_119 hz107_5 d_Mo_share_107 ?_
        refine j_imul hx d_Mo_share_108 ?_
        refine j_iload_n hx d_Mo_share_109 rfl 5 rfl ?_
        refine j_irem hx d_Mo_share_110 (by exact hz) ?_
        refine j_istore hx [(8, .int ((n * ((up σ 111 0 0) 119 i)) - (n * ((up σ 111 0 0) 119 i)) / (mhd (up σ 111 0 0) (tl (up σ 111 0 0) 4)) * (mhd (up σ 111 0 0) (tl (up σ 111 0 0) 4)))), (7, .int ((n * ((up σ 111 0 0) 119 d)) - (n * ((up σ 111 0 0) 119 d)) / (mhd (up σ 111 0 0) (tl (up σ 111 0 0) 4)) * (mhd (up σ 111 0 0) (tl (up σ 111 0 0) 4)))), (4, .int ((msO (up σ 111 0 0) n (mhd (up σ 111 0 0) (ct ((up σ 111 0 0) 115 4))) i) - ((n * ((up σ 111 0 0) 119 i)) / (mhd (up σ 111 0 0) (tl (up σ 111 0 0) 4))))), (0, .ref (G.1 111)), (1, .int (nI d)), (2, .int n), (3, .int (mhd (up σ 111 0 0) (tl (up σ 111 0 0) 4))), (5, .int (msA (up σ 111 0 0) d n (mhd (up σ 111 0 0) (ct ((up σ 111 0 0) 115 4))) i)), (6, .int (nI i))] d_Mo_share_111 (by decide) rfl ?_
        refine j_iload hx d_Mo_share_113 7 rfl ?_
        refine j_iload hx d_Mo_share_115 0 rfl ?_
        refine j_iload hx d_Mo_share_117 1 rfl ?_
        refine j_icmp_gt (tgt := 135) hx d_Mo_share_119 (by decide) (fun zc119 => ?_) (fun zc119 => ?_)
        · skip
          refine j_iconst (v := 1) hx d_Mo_share_135 (by decide) ?_
          refine j_goto (tgt := 140) hx d_Mo_share_136 (by decide) ?_
          refine j_iadd hx d_Mo_share_140 ?_
          refine j_istore hx [(5, .int ((msA (up σ 111 0 0) d n (mhd (up σ 111 0 0) (ct ((up σ 111 0 0) 115 4))) i) + 1)), (8, .int ((n * ((up σ 111 0 0) 119 i)) - (n * ((up σ 111 0 0) 119 i)) / (mhd (up σ 111 0 0) (tl (up σ 111 0 0) 4)) * (mhd (up σ 111 0 0) (tl (up σ 111 0 0) 4)))), (7, .int ((n * ((up σ 111 0 0) 119 d)) - (n * ((up σ 111 0 0) 119 d)) / (mhd (up σ 111 0 0) (tl (up σ 111 0 0) 4)) * (mhd (up σ 111 0 0) (tl (up σ 111 0 0) 4)))), (4, .int ((msO (up σ 111 0 0) n (mhd (up σ 111 0 0) (ct ((up σ 111 0 0) 115 4))) i) - ((n * ((up σ 111 0 0) 119 i)) / (mhd (up σ 111 0 0) (tl (up σ 111 0 0) 4))))), (0, .ref (G.1 111)), (1, .int (nI d)), (2, .int n), (3, .int (mhd (up σ 111 0 0) (tl (up σ 111 0 0) 4))), (6, .int (nI i))] d_Mo_share_141 (by decide) rfl ?_
          refine j_iinc hx [(6, .int ((nI i) + 1)), (5, .int ((msA (up σ 111 0 0) d n (mhd (up σ 111 0 0) (ct ((up σ 111 0 0) 115 4))) i) + 1)), (8, .int ((n * ((up σ 111 0 0) 119 i)) - (n * ((up σ 111 0 0) 119 i)) / (mhd (up σ 111 0 0) (tl (up σ 111 0 0) 4)) * (mhd (up σ 111 0 0) (tl (up σ 111 0 0) 4)))), (7, .int ((n * ((up σ 111 0 0) 119 d)) - (n * ((up σ 111 0 0) 119 d)) / (mhd (up σ 111 0 0) (tl (up σ 111 0 0) 4)) * (mhd (up σ 111 0 0) (tl (up σ 111 0 0) 4)))), (4, .int ((msO (up σ 111 0 0) n (mhd (up σ 111 0 0) (ct ((up σ 111 0 0) 115 4))) i) - ((n * ((up σ 111 0 0) 119 i)) / (mhd (up σ 111 0 0) (tl (up σ 111 0 0) 4))))), (0, .ref (G.1 111)), (1, .int (nI d)), (2, .int n), (3, .int (mhd (up σ 111 0 0) (tl (up σ 111 0 0) 4)))] d_Mo_share_143 8 rfl rfl (by decide) rfl ?_
          refine j_goto (tgt := 61) hx d_Mo_share_146 (by decide) ?_
          refine J.lsub (ls' := [(0, .ref (G.1 111)), (1, .int (nI d)), (2, .int n), (3, .int (mhd (up σ 111 0 0) (tl (up σ 111 0 0) 4))), (4, .int ((msO (up σ 111 0 0) n (mhd (up σ 111 0 0) (ct ((up σ 111 0 0) 115 4))) i) - ((n * ((up σ 111 0 0) 119 i)) / (mhd (up σ 111 0 0) (tl (up σ 111 0 0) 4))))), (5, .int ((msA (up σ 111 0 0) d n (mhd (up σ 111 0 0) (ct ((up σ 111 0 0) 115 4))) i) + 1)), (6, .int ((nI i) + 1))]) [5, 6, 7, 8, 4, 1, 0] rfl ?_
          refine J.to ?_ ?_ (ih61 _ ?_ (i + 1) hlt61 rfl)
          · first | (first | rfl | (simp [zc69, zc119]; done)) | fail
          · first | (simp only [nI_s]; first | (rw [show msA (up σ 111 0 0) d n (mhd (up σ 111 0 0) (ct ((up σ 111 0 0) 115 4))) (i + 1) = msA (up σ 111 0 0) d n (mhd (up σ 111 0 0) (ct ((up σ 111 0 0) 115 4))) i + b2 (msP (up σ 111 0 0) d n (mhd (up σ 111 0 0) (ct ((up σ 111 0 0) 115 4))) i) from rfl, b2_t (p := msP (up σ 111 0 0) d n (mhd (up σ 111 0 0) (ct ((up σ 111 0 0) 115 4))) i) (Or.inl (i_nle zc119))]; rfl) | (rw [show msA (up σ 111 0 0) d n (mhd (up σ 111 0 0) (ct ((up σ 111 0 0) 115 4))) (i + 1) = msA (up σ 111 0 0) d n (mhd (up σ 111 0 0) (ct ((up σ 111 0 0) 115 4))) i + b2 (msP (up σ 111 0 0) d n (mhd (up σ 111 0 0) (ct ((up σ 111 0 0) 115 4))) i) from rfl, b2_t (p := msP (up σ 111 0 0) d n (mhd (up σ 111 0 0) (ct ((up σ 111 0 0) 115 4))) i) (Or.inl zc119)]; rfl) | (rw [show msA (up σ 111 0 0) d n (mhd (up σ 111 0 0) (ct ((up σ 111 0 0) 115 4))) (i + 1) = msA (up σ 111 0 0) d n (mhd (up σ 111 0 0) (ct ((up σ 111 0 0) 115 4))) i + b2 (msP (up σ 111 0 0) d n (mhd (up σ 111 0 0) (ct ((up σ 111 0 0) 115 4))) i) from rfl, b2_t (p := msP (up σ 111 0 0) d n (mhd (up σ 111 0 0) (ct ((up σ 111 0 0) 115 4))) i) (Or.inr ⟨zc126, i_nle zc132⟩)]; rfl) | (rw [show msA (up σ 111 0 0) d n (mhd (up σ 111 0 0) (ct ((up σ 111 0 0) 115 4))) (i + 1) = msA (up σ 111 0 0) d n (mhd (up σ 111 0 0) (ct ((up σ 111 0 0) 115 4))) i + b2 (msP (up σ 111 0 0) d n (mhd (up σ 111 0 0) (ct ((up σ 111 0 0) 115 4))) i) from rfl, b2_f (p := msP (up σ 111 0 0) d n (mhd (up σ 111 0 0) (ct ((up σ 111 0 0) 115 4))) i) (fun z => z.elim zc119 (fun q => zc126 q.1))]; rfl) | (rw [show msA (up σ 111 0 0) d n (mhd (up σ 111 0 0) (ct ((up σ 111 0 0) 115 4))) (i + 1) = msA (up σ 111 0 0) d n (mhd (up σ 111 0 0) (ct ((up σ 111 0 0) 115 4))) i + b2 (msP (up σ 111 0 0) d n (mhd (up σ 111 0 0) (ct ((up σ 111 0 0) 115 4))) i) from rfl, b2_f (p := msP (up σ 111 0 0) d n (mhd (up σ 111 0 0) (ct ((up σ 111 0 0) 115 4))) i) (fun z => z.elim zc119 (fun q => i_lelt zc132 q.2))]; rfl)) | fail
          · first | (omega) | fail
        · skip
          refine j_iload hx d_Mo_share_122 0 rfl ?_
          refine j_iload hx d_Mo_share_124 1 rfl ?_
          refine j_icmp_ne (tgt := 139) hx d_Mo_share_126 (by decide) (fun zc126 => ?_) (fun zc126 => ?_)
          · skip
            refine j_iconst (v := 0) hx d_Mo_share_139 (by decide) ?_
            refine j_iadd hx d_Mo_share_140 ?_
            refine j_istore hx [(5, .int ((msA (up σ 111 0 0) d n (mhd (up σ 111 0 0) (ct ((up σ 111 0 0) 115 4))) i) + 0)), (8, .int ((n * ((up σ 111 0 0) 119 i)) - (n * ((up σ 111 0 0) 119 i)) / (mhd (up σ 111 0 0) (tl (up σ 111 0 0) 4)) * (mhd (up σ 111 0 0) (tl (up σ 111 0 0) 4)))), (7, .int ((n * ((up σ 111 0 0) 119 d)) - (n * ((up σ 111 0 0) 119 d)) / (mhd (up σ 111 0 0) (tl (up σ 111 0 0) 4)) * (mhd (up σ 111 0 0) (tl (up σ 111 0 0) 4)))), (4, .int ((msO (up σ 111 0 0) n (mhd (up σ 111 0 0) (ct ((up σ 111 0 0) 115 4))) i) - ((n * ((up σ 111 0 0) 119 i)) / (mhd (up σ 111 0 0) (tl (up σ 111 0 0) 4))))), (0, .ref (G.1 111)), (1, .int (nI d)), (2, .int n), (3, .int (mhd (up σ 111 0 0) (tl (up σ 111 0 0) 4))), (6, .int (nI i))] d_Mo_share_141 (by decide) rfl ?_
            refine j_iinc hx [(6, .int ((nI i) + 1)), (5, .int ((msA (up σ 111 0 0) d n (mhd (up σ 111 0 0) (ct ((up σ 111 0 0) 115 4))) i) + 0)), (8, .int ((n * ((up σ 111 0 0) 119 i)) - (n * ((up σ 111 0 0) 119 i)) / (mhd (up σ 111 0 0) (tl (up σ 111 0 0) 4)) * (mhd (up σ 111 0 0) (tl (up σ 111 0 0) 4)))), (7, .int ((n * ((up σ 111 0 0) 119 d)) - (n * ((up σ 111 0 0) 119 d)) / (mhd (up σ 111 0 0) (tl (up σ 111 0 0) 4)) * (mhd (up σ 111 0 0) (tl (up σ 111 0 0) 4)))), (4, .int ((msO (up σ 111 0 0) n (mhd (up σ 111 0 0) (ct ((up σ 111 0 0) 115 4))) i) - ((n * ((up σ 111 0 0) 119 i)) / (mhd (up σ 111 0 0) (tl (up σ 111 0 0) 4))))), (0, .ref (G.1 111)), (1, .int (nI d)), (2, .int n), (3, .int (mhd (up σ 111 0 0) (tl (up σ 111 0 0) 4)))] d_Mo_share_143 8 rfl rfl (by decide) rfl ?_
            refine j_goto (tgt := 61) hx d_Mo_share_146 (by decide) ?_
            refine J.lsub (ls' := [(0, .ref (G.1 111)), (1, .int (nI d)), (2, .int n), (3, .int (mhd (up σ 111 0 0) (tl (up σ 111 0 0) 4))), (4, .int ((msO (up σ 111 0 0) n (mhd (up σ 111 0 0) (ct ((up σ 111 0 0) 115 4))) i) - ((n * ((up σ 111 0 0) 119 i)) / (mhd (up σ 111 0 0) (tl (up σ 111 0 0) 4))))), (5, .int ((msA (up σ 111 0 0) d n (mhd (up σ 111 0 0) (ct ((up σ 111 0 0) 115 4))) i) + 0)), (6, .int ((nI i) + 1))]) [5, 6, 7, 8, 4, 1, 0] rfl ?_
            refine J.to ?_ ?_ (ih61 _ ?_ (i + 1) hlt61 rfl)
            · first | (first | rfl | (simp [zc69, zc119, zc126]; done)) | fail
            · first | (simp only [nI_s]; first | (rw [show msA (up σ 111 0 0) d n (mhd (up σ 111 0 0) (ct ((up σ 111 0 0) 115 4))) (i + 1) = msA (up σ 111 0 0) d n (mhd (up σ 111 0 0) (ct ((up σ 111 0 0) 115 4))) i + b2 (msP (up σ 111 0 0) d n (mhd (up σ 111 0 0) (ct ((up σ 111 0 0) 115 4))) i) from rfl, b2_t (p := msP (up σ 111 0 0) d n (mhd (up σ 111 0 0) (ct ((up σ 111 0 0) 115 4))) i) (Or.inl (i_nle zc119))]; rfl) | (rw [show msA (up σ 111 0 0) d n (mhd (up σ 111 0 0) (ct ((up σ 111 0 0) 115 4))) (i + 1) = msA (up σ 111 0 0) d n (mhd (up σ 111 0 0) (ct ((up σ 111 0 0) 115 4))) i + b2 (msP (up σ 111 0 0) d n (mhd (up σ 111 0 0) (ct ((up σ 111 0 0) 115 4))) i) from rfl, b2_t (p := msP (up σ 111 0 0) d n (mhd (up σ 111 0 0) (ct ((up σ 111 0 0) 115 4))) i) (Or.inl zc119)]; rfl) | (rw [show msA (up σ 111 0 0) d n (mhd (up σ 111 0 0) (ct ((up σ 111 0 0) 115 4))) (i + 1) = msA (up σ 111 0 0) d n (mhd (up σ 111 0 0) (ct ((up σ 111 0 0) 115 4))) i + b2 (msP (up σ 111 0 0) d n (mhd (up σ 111 0 0) (ct ((up σ 111 0 0) 115 4))) i) from rfl, b2_t (p := msP (up σ 111 0 0) d n (mhd (up σ 111 0 0) (ct ((up σ 111 0 0) 115 4))) i) (Or.inr ⟨zc126, i_nle zc132⟩)]; rfl) | (rw [show msA (up σ 111 0 0) d n (mhd (up σ 111 0 0) (ct ((up σ 111 0 0) 115 4))) (i + 1) = msA (up σ 111 0 0) d n (mhd (up σ 111 0 0) (ct ((up σ 111 0 0) 115 4))) i + b2 (msP (up σ 111 0 0) d n (mhd (up σ 111 0 0) (ct ((up σ 111 0 0) 115 4))) i) from rfl, b2_f (p := msP (up σ 111 0 0) d n (mhd (up σ 111 0 0) (ct ((up σ 111 0 0) 115 4))) i) (fun z => z.elim zc119 (fun q => zc126 q.1))]; rfl) | (rw [show msA (up σ 111 0 0) d n (mhd (up σ 111 0 0) (ct ((up σ 111 0 0) 115 4))) (i + 1) = msA (up σ 111 0 0) d n (mhd (up σ 111 0 0) (ct ((up σ 111 0 0) 115 4))) i + b2 (msP (up σ 111 0 0) d n (mhd (up σ 111 0 0) (ct ((up σ 111 0 0) 115 4))) i) from rfl, b2_f (p := msP (up σ 111 0 0) d n (mhd (up σ 111 0 0) (ct ((up σ 111 0 0) 115 4))) i) (fun z => z.elim zc119 (fun q => i_lelt zc132 q.2))]; rfl)) | fail
            · first | (omega) | fail
          · skip
            refine j_iload hx d_Mo_share_129 8 rfl ?_
            refine j_iload_n hx d_Mo_share_131 rfl 4 rfl ?_
            refine j_icmp_ge (tgt := 139) hx d_Mo_share_132 (by decide) (fun zc132 => ?_) (fun zc132 => ?_)
            · skip
              refine j_iconst (v := 0) hx d_Mo_share_139 (by decide) ?_
              refine j_iadd hx d_Mo_share_140 ?_
              refine j_istore hx [(5, .int ((msA (up σ 111 0 0) d n (mhd (up σ 111 0 0) (ct ((up σ 111 0 0) 115 4))) i) + 0)), (8, .int ((n * ((up σ 111 0 0) 119 i)) - (n * ((up σ 111 0 0) 119 i)) / (mhd (up σ 111 0 0) (tl (up σ 111 0 0) 4)) * (mhd (up σ 111 0 0) (tl (up σ 111 0 0) 4)))), (7, .int ((n * ((up σ 111 0 0) 119 d)) - (n * ((up σ 111 0 0) 119 d)) / (mhd (up σ 111 0 0) (tl (up σ 111 0 0) 4)) * (mhd (up σ 111 0 0) (tl (up σ 111 0 0) 4)))), (4, .int ((msO (up σ 111 0 0) n (mhd (up σ 111 0 0) (ct ((up σ 111 0 0) 115 4))) i) - ((n * ((up σ 111 0 0) 119 i)) / (mhd (up σ 111 0 0) (tl (up σ 111 0 0) 4))))), (0, .ref (G.1 111)), (1, .int (nI d)), (2, .int n), (3, .int (mhd (up σ 111 0 0) (tl (up σ 111 0 0) 4))), (6, .int (nI i))] d_Mo_share_141 (by decide) rfl ?_
              refine j_iinc hx [(6, .int ((nI i) + 1)), (5, .int ((msA (up σ 111 0 0) d n (mhd (up σ 111 0 0) (ct ((up σ 111 0 0) 115 4))) i) + 0)), (8, .int ((n * ((up σ 111 0 0) 119 i)) - (n * ((up σ 111 0 0) 119 i)) / (mhd (up σ 111 0 0) (tl (up σ 111 0 0) 4)) * (mhd (up σ 111 0 0) (tl (up σ 111 0 0) 4)))), (7, .int ((n * ((up σ 111 0 0) 119 d)) - (n * ((up σ 111 0 0) 119 d)) / (mhd (up σ 111 0 0) (tl (up σ 111 0 0) 4)) * (mhd (up σ 111 0 0) (tl (up σ 111 0 0) 4)))), (4, .int ((msO (up σ 111 0 0) n (mhd (up σ 111 0 0) (ct ((up σ 111 0 0) 115 4))) i) - ((n * ((up σ 111 0 0) 119 i)) / (mhd (up σ 111 0 0) (tl (up σ 111 0 0) 4))))), (0, .ref (G.1 111)), (1, .int (nI d)), (2, .int n), (3, .int (mhd (up σ 111 0 0) (tl (up σ 111 0 0) 4)))] d_Mo_share_143 8 rfl rfl (by decide) rfl ?_
              refine j_goto (tgt := 61) hx d_Mo_share_146 (by decide) ?_
              refine J.lsub (ls' := [(0, .ref (G.1 111)), (1, .int (nI d)), (2, .int n), (3, .int (mhd (up σ 111 0 0) (tl (up σ 111 0 0) 4))), (4, .int ((msO (up σ 111 0 0) n (mhd (up σ 111 0 0) (ct ((up σ 111 0 0) 115 4))) i) - ((n * ((up σ 111 0 0) 119 i)) / (mhd (up σ 111 0 0) (tl (up σ 111 0 0) 4))))), (5, .int ((msA (up σ 111 0 0) d n (mhd (up σ 111 0 0) (ct ((up σ 111 0 0) 115 4))) i) + 0)), (6, .int ((nI i) + 1))]) [5, 6, 7, 8, 4, 1, 0] rfl ?_
              refine J.to ?_ ?_ (ih61 _ ?_ (i + 1) hlt61 rfl)
              · first | (first | rfl | (simp [zc69, zc119, zc126, zc132]; done)) | fail
              · first | (simp only [nI_s]; first | (rw [show msA (up σ 111 0 0) d n (mhd (up σ 111 0 0) (ct ((up σ 111 0 0) 115 4))) (i + 1) = msA (up σ 111 0 0) d n (mhd (up σ 111 0 0) (ct ((up σ 111 0 0) 115 4))) i + b2 (msP (up σ 111 0 0) d n (mhd (up σ 111 0 0) (ct ((up σ 111 0 0) 115 4))) i) from rfl, b2_t (p := msP (up σ 111 0 0) d n (mhd (up σ 111 0 0) (ct ((up σ 111 0 0) 115 4))) i) (Or.inl (i_nle zc119))]; rfl) | (rw [show msA (up σ 111 0 0) d n (mhd (up σ 111 0 0) (ct ((up σ 111 0 0) 115 4))) (i + 1) = msA (up σ 111 0 0) d n (mhd (up σ 111 0 0) (ct ((up σ 111 0 0) 115 4))) i + b2 (msP (up σ 111 0 0) d n (mhd (up σ 111 0 0) (ct ((up σ 111 0 0) 115 4))) i) from rfl, b2_t (p := msP (up σ 111 0 0) d n (mhd (up σ 111 0 0) (ct ((up σ 111 0 0) 115 4))) i) (Or.inl zc119)]; rfl) | (rw [show msA (up σ 111 0 0) d n (mhd (up σ 111 0 0) (ct ((up σ 111 0 0) 115 4))) (i + 1) = msA (up σ 111 0 0) d n (mhd (up σ 111 0 0) (ct ((up σ 111 0 0) 115 4))) i + b2 (msP (up σ 111 0 0) d n (mhd (up σ 111 0 0) (ct ((up σ 111 0 0) 115 4))) i) from rfl, b2_t (p := msP (up σ 111 0 0) d n (mhd (up σ 111 0 0) (ct ((up σ 111 0 0) 115 4))) i) (Or.inr ⟨zc126, i_nle zc132⟩)]; rfl) | (rw [show msA (up σ 111 0 0) d n (mhd (up σ 111 0 0) (ct ((up σ 111 0 0) 115 4))) (i + 1) = msA (up σ 111 0 0) d n (mhd (up σ 111 0 0) (ct ((up σ 111 0 0) 115 4))) i + b2 (msP (up σ 111 0 0) d n (mhd (up σ 111 0 0) (ct ((up σ 111 0 0) 115 4))) i) from rfl, b2_f (p := msP (up σ 111 0 0) d n (mhd (up σ 111 0 0) (ct ((up σ 111 0 0) 115 4))) i) (fun z => z.elim zc119 (fun q => zc126 q.1))]; rfl) | (rw [show msA (up σ 111 0 0) d n (mhd (up σ 111 0 0) (ct ((up σ 111 0 0) 115 4))) (i + 1) = msA (up σ 111 0 0) d n (mhd (up σ 111 0 0) (ct ((up σ 111 0 0) 115 4))) i + b2 (msP (up σ 111 0 0) d n (mhd (up σ 111 0 0) (ct ((up σ 111 0 0) 115 4))) i) from rfl, b2_f (p := msP (up σ 111 0 0) d n (mhd (up σ 111 0 0) (ct ((up σ 111 0 0) 115 4))) i) (fun z => z.elim zc119 (fun q => i_lelt zc132 q.2))]; rfl)) | fail
              · first | (omega) | fail
            · skip
              refine j_iconst (v := 1) hx d_Mo_share_135 (by decide) ?_
              refine j_goto (tgt := 140) hx d_Mo_share_136 (by decide) ?_
              refine j_iadd hx d_Mo_share_140 ?_
              refine j_istore hx [(5, .int ((msA (up σ 111 0 0) d n (mhd (up σ 111 0 0) (ct ((up σ 111 0 0) 115 4))) i) + 1)), (8, .int ((n * ((up σ 111 0 0) 119 i)) - (n * ((up σ 111 0 0) 119 i)) / (mhd (up σ 111 0 0) (tl (up σ 111 0 0) 4)) * (mhd (up σ 111 0 0) (tl (up σ 111 0 0) 4)))), (7, .int ((n * ((up σ 111 0 0) 119 d)) - (n * ((up σ 111 0 0) 119 d)) / (mhd (up σ 111 0 0) (tl (up σ 111 0 0) 4)) * (mhd (up σ 111 0 0) (tl (up σ 111 0 0) 4)))), (4, .int ((msO (up σ 111 0 0) n (mhd (up σ 111 0 0) (ct ((up σ 111 0 0) 115 4))) i) - ((n * ((up σ 111 0 0) 119 i)) / (mhd (up σ 111 0 0) (tl (up σ 111 0 0) 4))))), (0, .ref (G.1 111)), (1, .int (nI d)), (2, .int n), (3, .int (mhd (up σ 111 0 0) (tl (up σ 111 0 0) 4))), (6, .int (nI i))] d_Mo_share_141 (by decide) rfl ?_
              refine j_iinc hx [(6, .int ((nI i) + 1)), (5, .int ((msA (up σ 111 0 0) d n (mhd (up σ 111 0 0) (ct ((up σ 111 0 0) 115 4))) i) + 1)), (8, .int ((n * ((up σ 111 0 0) 119 i)) - (n * ((up σ 111 0 0) 119 i)) / (mhd (up σ 111 0 0) (tl (up σ 111 0 0) 4)) * (mhd (up σ 111 0 0) (tl (up σ 111 0 0) 4)))), (7, .int ((n * ((up σ 111 0 0) 119 d)) - (n * ((up σ 111 0 0) 119 d)) / (mhd (up σ 111 0 0) (tl (up σ 111 0 0) 4)) * (mhd (up σ 111 0 0) (tl (up σ 111 0 0) 4)))), (4, .int ((msO (up σ 111 0 0) n (mhd (up σ 111 0 0) (ct ((up σ 111 0 0) 115 4))) i) - ((n * ((up σ 111 0 0) 119 i)) / (mhd (up σ 111 0 0) (tl (up σ 111 0 0) 4))))), (0, .ref (G.1 111)), (1, .int (nI d)), (2, .int n), (3, .int (mhd (up σ 111 0 0) (tl (up σ 111 0 0) 4)))] d_Mo_share_143 8 rfl rfl (by decide) rfl ?_
              refine j_goto (tgt := 61) hx d_Mo_share_146 (by decide) ?_
              refine J.lsub (ls' := [(0, .ref (G.1 111)), (1, .int (nI d)), (2, .int n), (3, .int (mhd (up σ 111 0 0) (tl (up σ 111 0 0) 4))), (4, .int ((msO (up σ 111 0 0) n (mhd (up σ 111 0 0) (ct ((up σ 111 0 0) 115 4))) i) - ((n * ((up σ 111 0 0) 119 i)) / (mhd (up σ 111 0 0) (tl (up σ 111 0 0) 4))))), (5, .int ((msA (up σ 111 0 0) d n (mhd (up σ 111 0 0) (ct ((up σ 111 0 0) 115 4))) i) + 1)), (6, .int ((nI i) + 1))]) [5, 6, 7, 8, 4, 1, 0] rfl ?_
              refine J.to ?_ ?_ (ih61 _ ?_ (i + 1) hlt61 rfl)
              · first | (first | rfl | (simp [zc69, zc119, zc126, zc132]; done)) | fail
              · first | (simp only [nI_s]; first | (rw [show msA (up σ 111 0 0) d n (mhd (up σ 111 0 0) (ct ((up σ 111 0 0) 115 4))) (i + 1) = msA (up σ 111 0 0) d n (mhd (up σ 111 0 0) (ct ((up σ 111 0 0) 115 4))) i + b2 (msP (up σ 111 0 0) d n (mhd (up σ 111 0 0) (ct ((up σ 111 0 0) 115 4))) i) from rfl, b2_t (p := msP (up σ 111 0 0) d n (mhd (up σ 111 0 0) (ct ((up σ 111 0 0) 115 4))) i) (Or.inl (i_nle zc119))]; rfl) | (rw [show msA (up σ 111 0 0) d n (mhd (up σ 111 0 0) (ct ((up σ 111 0 0) 115 4))) (i + 1) = msA (up σ 111 0 0) d n (mhd (up σ 111 0 0) (ct ((up σ 111 0 0) 115 4))) i + b2 (msP (up σ 111 0 0) d n (mhd (up σ 111 0 0) (ct ((up σ 111 0 0) 115 4))) i) from rfl, b2_t (p := msP (up σ 111 0 0) d n (mhd (up σ 111 0 0) (ct ((up σ 111 0 0) 115 4))) i) (Or.inl zc119)]; rfl) | (rw [show msA (up σ 111 0 0) d n (mhd (up σ 111 0 0) (ct ((up σ 111 0 0) 115 4))) (i + 1) = msA (up σ 111 0 0) d n (mhd (up σ 111 0 0) (ct ((up σ 111 0 0) 115 4))) i + b2 (msP (up σ 111 0 0) d n (mhd (up σ 111 0 0) (ct ((up σ 111 0 0) 115 4))) i) from rfl, b2_t (p := msP (up σ 111 0 0) d n (mhd (up σ 111 0 0) (ct ((up σ 111 0 0) 115 4))) i) (Or.inr ⟨zc126, i_nle zc132⟩)]; rfl) | (rw [show msA (up σ 111 0 0) d n (mhd (up σ 111 0 0) (ct ((up σ 111 0 0) 115 4))) (i + 1) = msA (up σ 111 0 0) d n (mhd (up σ 111 0 0) (ct ((up σ 111 0 0) 115 4))) i + b2 (msP (up σ 111 0 0) d n (mhd (up σ 111 0 0) (ct ((up σ 111 0 0) 115 4))) i) from rfl, b2_f (p := msP (up σ 111 0 0) d n (mhd (up σ 111 0 0) (ct ((up σ 111 0 0) 115 4))) i) (fun z => z.elim zc119 (fun q => zc126 q.1))]; rfl) | (rw [show msA (up σ 111 0 0) d n (mhd (up σ 111 0 0) (ct ((up σ 111 0 0) 115 4))) (i + 1) = msA (up σ 111 0 0) d n (mhd (up σ 111 0 0) (ct ((up σ 111 0 0) 115 4))) i + b2 (msP (up σ 111 0 0) d n (mhd (up σ 111 0 0) (ct ((up σ 111 0 0) 115 4))) i) from rfl, b2_f (p := msP (up σ 111 0 0) d n (mhd (up σ 111 0 0) (ct ((up σ 111 0 0) 115 4))) i) (fun z => z.elim zc119 (fun q => i_lelt zc132 q.2))]; rfl)) | fail
              · first | (omega) | fail
  refine J.lsub (ls' := [(0, .ref (G.1 111)), (1, .int (nI d)), (2, .int n), (3, .int (mhd (up σ 111 0 0) (tl (up σ 111 0 0) 4))), (4, .int n), (5, .int 0), (6, .int 0)]) [4, 5, 6, 3, 2, 1, 0] rfl ?_
  refine J.to ?_ ?_ (hl61 _ 0 (Nat.zero_le _) rfl)
  · first | (first | rfl | (simp []; done)) | fail
  · first | (rfl) | fail

set_option maxRecDepth 20000 in
set_option maxHeartbeats 4000000 in
theorem c_Mo_shareN {l : Launch} {G : Gz} (hG : zI G) (σ : St) (d : Int32) (n : Int32) (hT9 : 0 ≤ (σ 115 4).toInt) (hbad : ¬ (¬ d < 0 ∧ d < (up σ 111 0 0) 115 4)) : MI l G y_Mo_share prog_14_method_92_code 9 .int 4 [.ref (G.1 111), .int d, .int n] σ 0 (mrf σ 1 0) := by
  refine MI.of hG (by decide) (Nat.le_of_ble_eq_true rfl) (fun X hx hq => ?_)
  show J l G X 9 σ 0 [(0, .ref (G.1 111)), (1, .int d), (2, .int n)] []
  refine j_aload_n hx d_Mo_share_0 rfl 0 rfl ?_
  refine j_iconst (v := 0) hx d_Mo_share_1 (by decide) ?_
  refine j_put hx ck_Mo 0 (by decide) t_1418 (by decide) (sh_111 _ _) rfl (Nat.le_of_ble_eq_true rfl) (sh_111 _ _) d_Mo_share_2 ?_
  refine j_aload_n hx d_Mo_share_5 rfl 0 rfl ?_
  refine j_aload_n hx d_Mo_share_6 rfl 0 rfl ?_
  refine j_iconst (v := 4) hx d_Mo_share_7 (by decide) ?_
  refine j_iload_n hx d_Mo_share_8 rfl 1 rfl ?_
  refine j_callVi hx (c_Mo_isNo0 hG (up σ 111 0 0) 4 d (by decide) (by exact hT9) (by exact hbad)) mo_Mo_isNo mv_Mo_isNo t_1789 (by decide) rfl (by decide) (sh_111 _ _) rfl rfl (Nat.le_of_ble_eq_true rfl) d_Mo_share_9 ?_
  refine j_iconst (v := 1) hx d_Mo_share_12 (by decide) ?_
  refine j_iconst (v := 0) hx d_Mo_share_13 (by decide) ?_
  refine j_callVi hx (c_Mo_bad1 hG (up σ 111 0 0) 1 1 0 (by decide) (by exact up_rd) (by decide) (by decide)) mo_Mo_bad mv_Mo_bad t_1584 (by decide) rfl (by decide) (sh_111 _ _) rfl rfl (Nat.le_of_ble_eq_true rfl) d_Mo_share_14 ?_
  refine j_if_ne (tgt := 45) hx d_Mo_share_17 (by decide) (fun _ => ?_) (fun zc17 => absurd zc17 (by decide))
  refine j_iconst (v := 0) hx d_Mo_share_45 (by decide) ?_
  exact j_iret hx hq rfl d_Mo_share_46 (by first | (rfl) | fail) (by first | (rfl) | fail)

set_option maxRecDepth 20000 in
set_option maxHeartbeats 4000000 in
theorem c_Mo_shareI {l : Launch} {G : Gz} (hG : zI G) (σ : St) (d : Int32) (n : Int32) (hc9 : ¬ d < 0 ∧ d < (up σ 111 0 0) 115 4) (hbad : ¬ (0 ≤ n ∧ n ≤ 999)) : MI l G y_Mo_share prog_14_method_92_code 9 .int 4 [.ref (G.1 111), .int d, .int n] σ 0 (mrf σ 2 1) := by
  refine MI.of hG (by decide) (Nat.le_of_ble_eq_true rfl) (fun X hx hq => ?_)
  show J l G X 9 σ 0 [(0, .ref (G.1 111)), (1, .int d), (2, .int n)] []
  refine j_aload_n hx d_Mo_share_0 rfl 0 rfl ?_
  refine j_iconst (v := 0) hx d_Mo_share_1 (by decide) ?_
  refine j_put hx ck_Mo 0 (by decide) t_1418 (by decide) (sh_111 _ _) rfl (Nat.le_of_ble_eq_true rfl) (sh_111 _ _) d_Mo_share_2 ?_
  refine j_aload_n hx d_Mo_share_5 rfl 0 rfl ?_
  refine j_aload_n hx d_Mo_share_6 rfl 0 rfl ?_
  refine j_iconst (v := 4) hx d_Mo_share_7 (by decide) ?_
  refine j_iload_n hx d_Mo_share_8 rfl 1 rfl ?_
  refine j_callVi hx (c_Mo_isNo1 hG (up σ 111 0 0) 4 d (by decide) (by exact hc9)) mo_Mo_isNo mv_Mo_isNo t_1789 (by decide) rfl (by decide) (sh_111 _ _) rfl rfl (Nat.le_of_ble_eq_true rfl) d_Mo_share_9 ?_
  refine j_iconst (v := 1) hx d_Mo_share_12 (by decide) ?_
  refine j_iconst (v := 0) hx d_Mo_share_13 (by decide) ?_
  refine j_callVi hx (c_Mo_bad0 hG (up σ 111 0 0) 0 1 0 (by rfl) (by exact up_rd)) mo_Mo_bad mv_Mo_bad t_1584 (by decide) rfl (by decide) (sh_111 _ _) rfl rfl (Nat.le_of_ble_eq_true rfl) d_Mo_share_14 ?_
  refine j_if_ne (tgt := 45) hx d_Mo_share_17 (by decide) (fun zc17 => absurd rfl zc17) (fun _ => ?_)
  refine j_aload_n hx d_Mo_share_20 rfl 0 rfl ?_
  refine j_iload_n hx d_Mo_share_21 rfl 2 rfl ?_
  refine j_iconst (v := 0) hx d_Mo_share_22 (by decide) ?_
  refine j_sipush (v := 999) hx d_Mo_share_23 (by decide) ?_
  refine j_callSi hx (c_Mo_in0 hG (up σ 111 0 0) n 0 999 (by exact hbad)) mo_Mo_in t_1582 t_1581 (by decide) rfl rfl (Nat.le_of_ble_eq_true rfl) d_Mo_share_26 ?_
  refine j_if_ne (tgt := 36) hx d_Mo_share_29 (by decide) (fun zc29 => absurd rfl zc29) (fun _ => ?_)
  refine j_iconst (v := 1) hx d_Mo_share_32 (by decide) ?_
  refine j_goto (tgt := 37) hx d_Mo_share_33 (by decide) ?_
  refine j_iconst (v := 2) hx d_Mo_share_37 (by decide) ?_
  refine j_iconst (v := 1) hx d_Mo_share_38 (by decide) ?_
  refine j_callVi hx (c_Mo_bad1 hG (up σ 111 0 0) 1 2 1 (by decide) (by exact up_rd) (by decide) (by decide)) mo_Mo_bad mv_Mo_bad t_1584 (by decide) rfl (by decide) (sh_111 _ _) rfl rfl (Nat.le_of_ble_eq_true rfl) d_Mo_share_39 ?_
  refine j_if_eq (tgt := 47) hx d_Mo_share_42 (by decide) (fun zc42 => absurd zc42 (by decide)) (fun _ => ?_)
  refine j_iconst (v := 0) hx d_Mo_share_45 (by decide) ?_
  exact j_iret hx hq rfl d_Mo_share_46 (by first | (rfl) | fail) (by first | (rfl) | fail)

set_option maxRecDepth 20000 in
set_option maxHeartbeats 4000000 in
theorem c_Mo_drawn {l : Launch} {G : Gz} (hG : zI G) (σ : St) (c : Nat) (hw : mW (up σ 111 0 0)) (hc9 : c < ct ((up σ 111 0 0) 115 0)) : MI l G y_Mo_drawn prog_14_method_93_code 4 .int 9 [.ref (G.1 111), .int (nI c)] σ (mdw (up σ 111 0 0) c (ct ((up σ 111 0 0) 115 3))) (t0 σ) := by
  refine MI.of hG (by decide) (Nat.le_of_ble_eq_true rfl) (fun X hx hq => ?_)
  show J l G X 4 σ 0 [(0, .ref (G.1 111)), (1, .int (nI c))] []
  have hb1 : ct ((up σ 111 0 0) 115 1) ≤ 6 := hw.1.2.1
  have hb2 : ct ((up σ 111 0 0) 115 2) ≤ 3 := hw.1.2.2.1
  have hb0 : ct ((up σ 111 0 0) 115 0) ≤ 12 := hw.1.1
  have hb3 : ct ((up σ 111 0 0) 115 3) ≤ 6 := hw.1.2.2.2.1
  have hb4 : ct ((up σ 111 0 0) 115 4) ≤ 6 := hw.1.2.2.2.2
  refine j_aload_n hx d_Mo_drawn_0 rfl 0 rfl ?_
  refine j_iconst (v := 0) hx d_Mo_drawn_1 (by decide) ?_
  refine j_put hx ck_Mo 0 (by decide) t_1418 (by decide) (sh_111 _ _) rfl (Nat.le_of_ble_eq_true rfl) (sh_111 _ _) d_Mo_drawn_2 ?_
  refine j_aload_n hx d_Mo_drawn_5 rfl 0 rfl ?_
  refine j_aload_n hx d_Mo_drawn_6 rfl 0 rfl ?_
  refine j_iconst (v := 0) hx d_Mo_drawn_7 (by decide) ?_
  refine j_iload_n hx d_Mo_drawn_8 rfl 1 rfl ?_
  refine j_callVi hx (c_Mo_isNo1 hG (up σ 111 0 0) 0 (nI c) (by decide) (by exact vkz hc9)) mo_Mo_isNo mv_Mo_isNo t_1789 (by decide) rfl (by decide) (sh_111 _ _) rfl rfl (Nat.le_of_ble_eq_true rfl) d_Mo_drawn_9 ?_
  refine j_iconst (v := 1) hx d_Mo_drawn_12 (by decide) ?_
  refine j_iconst (v := 0) hx d_Mo_drawn_13 (by decide) ?_
  refine j_callVi hx (c_Mo_bad0 hG (up σ 111 0 0) 0 1 0 (by rfl) (by exact up_rd)) mo_Mo_bad mv_Mo_bad t_1584 (by decide) rfl (by decide) (sh_111 _ _) rfl rfl (Nat.le_of_ble_eq_true rfl) d_Mo_drawn_14 ?_
  refine j_if_eq (tgt := 22) hx d_Mo_drawn_17 (by decide) (fun _ => ?_) (fun zc17 => absurd (by decide) zc17)
  refine j_iconst (v := 0) hx d_Mo_drawn_22 (by decide) ?_
  refine j_istore_n hx [(2, .int 0), (0, .ref (G.1 111)), (1, .int (nI c))] d_Mo_drawn_23 rfl (by decide) rfl ?_
  refine j_iconst (v := 0) hx d_Mo_drawn_24 (by decide) ?_
  refine j_istore_n hx [(3, .int 0), (2, .int 0), (0, .ref (G.1 111)), (1, .int (nI c))] d_Mo_drawn_25 rfl (by decide) rfl ?_
  have hl26 : ∀ (N9 : Nat) (i : Nat), (i ≤ (ct ((up σ 111 0 0) 115 3))) → (ct ((up σ 111 0 0) 115 3)) - i = N9 → J l G X 4 (up σ 111 0 0) 26 [(0, .ref (G.1 111)), (1, .int (nI c)), (2, .int (mdw (up σ 111 0 0) c i)), (3, .int (nI i))] [] := by
    intro N9
    induction N9 using Nat.strongRecOn with
    | _ N9 ih26 =>
      intro i hi_i hm26
      refine j_iload_n hx d_Mo_drawn_26 rfl 3 rfl ?_
      refine j_aload_n hx d_Mo_drawn_27 rfl 0 rfl ?_
      refine j_get hx ck_Mo 12 (by decide) t_1430 (by decide) (sh_111 _ _) rfl d_Mo_drawn_28 ?_
      refine j_iconst (v := 3) hx d_Mo_drawn_31 (by decide) ?_
      have hz32_1 : zin (3) 6 3 := by first | exact ⟨rfl, by decide⟩ | exact zin_nI (by omega) (by decide) | exact zin_of (by omega) (by omega)
      refine j_ialdk hx ia_115 hz32_1 d_Mo_drawn_32 ?_
      refine j_icmp_ge (tgt := 61) hx d_Mo_drawn_33 (by decide) (fun zc33 => ?_) (fun zc33 => ?_)
      · skip
        obtain rfl := ct_end' hi_i zc33
        refine j_iload_n hx d_Mo_drawn_61 rfl 2 rfl ?_
        exact j_iret hx hq rfl d_Mo_drawn_62 (by first | (rfl) | fail) (by first | (rfl) | fail)
      · skip
        have hlt26 := ct_go hi_i zc33
        refine j_iload_n hx d_Mo_drawn_36 rfl 2 rfl ?_
        refine j_aload_n hx d_Mo_drawn_37 rfl 0 rfl ?_
        refine j_iload_n hx d_Mo_drawn_38 rfl 3 rfl ?_
        refine j_iload_n hx d_Mo_drawn_39 rfl 1 rfl ?_
        refine j_callVi hx (c_Mo_isReef hG (up σ 111 0 0) i c (by omega) (by omega)) mo_Mo_isReef mv_Mo_isReef t_1766 (by decide) rfl (by decide) (sh_111 _ _) rfl rfl (Nat.le_of_ble_eq_true rfl) d_Mo_drawn_40 ?_
        refine j_if_eq (tgt := 52) hx d_Mo_drawn_43 (by decide) (fun zc43 => ?_) (fun zc43 => ?_)
        · skip
          refine j_iconst (v := 0) hx d_Mo_drawn_52 (by decide) ?_
          refine j_ior hx d_Mo_drawn_53 ?_
          refine j_istore_n hx [(2, .int ((mdw (up σ 111 0 0) c i) ||| 0)), (0, .ref (G.1 111)), (1, .int (nI c)), (3, .int (nI i))] d_Mo_drawn_54 rfl (by decide) rfl ?_
          refine j_iinc hx [(3, .int ((nI i) + 1)), (2, .int ((mdw (up σ 111 0 0) c i) ||| 0)), (0, .ref (G.1 111)), (1, .int (nI c))] d_Mo_drawn_55 3 rfl rfl (by decide) rfl ?_
          refine j_goto (tgt := 26) hx d_Mo_drawn_58 (by decide) ?_
          refine J.lsub (ls' := [(0, .ref (G.1 111)), (1, .int (nI c)), (2, .int ((mdw (up σ 111 0 0) c i) ||| 0)), (3, .int ((nI i) + 1))]) [2, 3, 1, 0] rfl ?_
          refine J.to ?_ ?_ (ih26 _ ?_ (i + 1) hlt26 rfl)
          · first | (first | rfl | (simp [zc33, zc43]; done)) | fail
          · first | (simp only [nI_s, mdw, bt_s]; first | rw [if_pos (b2_nz zc43)] | rw [if_neg (b2_z zc43)]) | fail
          · first | (omega) | fail
        · skip
          refine j_iconst (v := 1) hx d_Mo_drawn_46 (by decide) ?_
          refine j_iload_n hx d_Mo_drawn_47 rfl 3 rfl ?_
          refine j_ishl hx d_Mo_drawn_48 ?_
          refine j_goto (tgt := 53) hx d_Mo_drawn_49 (by decide) ?_
          refine j_ior hx d_Mo_drawn_53 ?_
          refine j_istore_n hx [(2, .int ((mdw (up σ 111 0 0) c i) ||| (1 <<< ((nI i) &&& 31)))), (0, .ref (G.1 111)), (1, .int (nI c)), (3, .int (nI i))] d_Mo_drawn_54 rfl (by decide) rfl ?_
          refine j_iinc hx [(3, .int ((nI i) + 1)), (2, .int ((mdw (up σ 111 0 0) c i) ||| (1 <<< ((nI i) &&& 31)))), (0, .ref (G.1 111)), (1, .int (nI c))] d_Mo_drawn_55 3 rfl rfl (by decide) rfl ?_
          refine j_goto (tgt := 26) hx d_Mo_drawn_58 (by decide) ?_
          refine J.lsub (ls' := [(0, .ref (G.1 111)), (1, .int (nI c)), (2, .int ((mdw (up σ 111 0 0) c i) ||| (1 <<< ((nI i) &&& 31)))), (3, .int ((nI i) + 1))]) [2, 3, 1, 0] rfl ?_
          refine J.to ?_ ?_ (ih26 _ ?_ (i + 1) hlt26 rfl)
          · first | (first | rfl | (simp [zc33, zc43]; done)) | fail
          · first | (simp only [nI_s, mdw, bt_s]; first | rw [if_pos (b2_nz zc43)] | rw [if_neg (b2_z zc43)]) | fail
          · first | (omega) | fail
  refine J.lsub (ls' := [(0, .ref (G.1 111)), (1, .int (nI c)), (2, .int 0), (3, .int 0)]) [2, 3, 1, 0] rfl ?_
  refine J.to ?_ ?_ (hl26 _ 0 (Nat.zero_le _) rfl)
  · first | (first | rfl | (simp []; done)) | fail
  · first | (rfl) | fail

set_option maxRecDepth 20000 in
set_option maxHeartbeats 4000000 in
theorem c_Mo_drawnN {l : Launch} {G : Gz} (hG : zI G) (σ : St) (c : Int32) (hT9 : 0 ≤ (σ 115 0).toInt) (hbad : ¬ (¬ c < 0 ∧ c < (up σ 111 0 0) 115 0)) : MI l G y_Mo_drawn prog_14_method_93_code 4 .int 4 [.ref (G.1 111), .int c] σ 0 (mrf σ 1 0) := by
  refine MI.of hG (by decide) (Nat.le_of_ble_eq_true rfl) (fun X hx hq => ?_)
  show J l G X 4 σ 0 [(0, .ref (G.1 111)), (1, .int c)] []
  refine j_aload_n hx d_Mo_drawn_0 rfl 0 rfl ?_
  refine j_iconst (v := 0) hx d_Mo_drawn_1 (by decide) ?_
  refine j_put hx ck_Mo 0 (by decide) t_1418 (by decide) (sh_111 _ _) rfl (Nat.le_of_ble_eq_true rfl) (sh_111 _ _) d_Mo_drawn_2 ?_
  refine j_aload_n hx d_Mo_drawn_5 rfl 0 rfl ?_
  refine j_aload_n hx d_Mo_drawn_6 rfl 0 rfl ?_
  refine j_iconst (v := 0) hx d_Mo_drawn_7 (by decide) ?_
  refine j_iload_n hx d_Mo_drawn_8 rfl 1 rfl ?_
  refine j_callVi hx (c_Mo_isNo0 hG (up σ 111 0 0) 0 c (by decide) (by exact hT9) (by exact hbad)) mo_Mo_isNo mv_Mo_isNo t_1789 (by decide) rfl (by decide) (sh_111 _ _) rfl rfl (Nat.le_of_ble_eq_true rfl) d_Mo_drawn_9 ?_
  refine j_iconst (v := 1) hx d_Mo_drawn_12 (by decide) ?_
  refine j_iconst (v := 0) hx d_Mo_drawn_13 (by decide) ?_
  refine j_callVi hx (c_Mo_bad1 hG (up σ 111 0 0) 1 1 0 (by decide) (by exact up_rd) (by decide) (by decide)) mo_Mo_bad mv_Mo_bad t_1584 (by decide) rfl (by decide) (sh_111 _ _) rfl rfl (Nat.le_of_ble_eq_true rfl) d_Mo_drawn_14 ?_
  refine j_if_eq (tgt := 22) hx d_Mo_drawn_17 (by decide) (fun zc17 => absurd zc17 (by decide)) (fun _ => ?_)
  refine j_iconst (v := 0) hx d_Mo_drawn_20 (by decide) ?_
  exact j_iret hx hq rfl d_Mo_drawn_21 (by first | (rfl) | fail) (by first | (rfl) | fail)

set_option maxRecDepth 20000 in
set_option maxHeartbeats 4000000 in
theorem c_Mo_flash {l : Launch} {G : Gz} (hG : zI G) (σ : St) (j : Nat) (m : Int32) (hw : mW (up σ 111 0 0)) (hqf : fl0 (fln ((up σ 111 0 0) (143 + j) 1) 9 m) ((up σ 111 0 0) (143 + j) 1)) (hc9 : j < ct ((up σ 111 0 0) 115 1)) (hv25 : 0 ≤ m ∧ m ≤ 99) : MI l G y_Mo_flash prog_14_method_94_code 4 .int 9 [.ref (G.1 111), .int (nI j), .int m] σ (fln ((up σ 111 0 0) (143 + j) 1) 9 m) (t0 σ) := by
  refine MI.of hG (by decide) (Nat.le_of_ble_eq_true rfl) (fun X hx hq => ?_)
  show J l G X 4 σ 0 [(0, .ref (G.1 111)), (1, .int (nI j)), (2, .int m)] []
  have hb1 : ct ((up σ 111 0 0) 115 1) ≤ 6 := hw.1.2.1
  have hb2 : ct ((up σ 111 0 0) 115 2) ≤ 3 := hw.1.2.2.1
  have hb0 : ct ((up σ 111 0 0) 115 0) ≤ 12 := hw.1.1
  have hb3 : ct ((up σ 111 0 0) 115 3) ≤ 6 := hw.1.2.2.2.1
  have hb4 : ct ((up σ 111 0 0) 115 4) ≤ 6 := hw.1.2.2.2.2
  refine j_aload_n hx d_Mo_flash_0 rfl 0 rfl ?_
  refine j_iconst (v := 0) hx d_Mo_flash_1 (by decide) ?_
  refine j_put hx ck_Mo 0 (by decide) t_1418 (by decide) (sh_111 _ _) rfl (Nat.le_of_ble_eq_true rfl) (sh_111 _ _) d_Mo_flash_2 ?_
  refine j_aload_n hx d_Mo_flash_5 rfl 0 rfl ?_
  refine j_aload_n hx d_Mo_flash_6 rfl 0 rfl ?_
  refine j_iconst (v := 1) hx d_Mo_flash_7 (by decide) ?_
  refine j_iload_n hx d_Mo_flash_8 rfl 1 rfl ?_
  refine j_callVi hx (c_Mo_isNo1 hG (up σ 111 0 0) 1 (nI j) (by decide) (by exact vkz hc9)) mo_Mo_isNo mv_Mo_isNo t_1789 (by decide) rfl (by decide) (sh_111 _ _) rfl rfl (Nat.le_of_ble_eq_true rfl) d_Mo_flash_9 ?_
  refine j_iconst (v := 1) hx d_Mo_flash_12 (by decide) ?_
  refine j_iconst (v := 0) hx d_Mo_flash_13 (by decide) ?_
  refine j_callVi hx (c_Mo_bad0 hG (up σ 111 0 0) 0 1 0 (by rfl) (by exact up_rd)) mo_Mo_bad mv_Mo_bad t_1584 (by decide) rfl (by decide) (sh_111 _ _) rfl rfl (Nat.le_of_ble_eq_true rfl) d_Mo_flash_14 ?_
  refine j_if_ne (tgt := 44) hx d_Mo_flash_17 (by decide) (fun zc17 => absurd rfl zc17) (fun _ => ?_)
  refine j_aload_n hx d_Mo_flash_20 rfl 0 rfl ?_
  refine j_iload_n hx d_Mo_flash_21 rfl 2 rfl ?_
  refine j_iconst (v := 0) hx d_Mo_flash_22 (by decide) ?_
  refine j_bipush (v := 99) hx d_Mo_flash_23 (by decide) ?_
  refine j_callSi hx (c_Mo_in1 hG (up σ 111 0 0) m 0 99 (by exact hv25)) mo_Mo_in t_1582 t_1581 (by decide) rfl rfl (Nat.le_of_ble_eq_true rfl) d_Mo_flash_25 ?_
  refine j_if_ne (tgt := 35) hx d_Mo_flash_28 (by decide) (fun _ => ?_) (fun zc28 => absurd zc28 (by decide))
  refine j_iconst (v := 0) hx d_Mo_flash_35 (by decide) ?_
  refine j_iconst (v := 2) hx d_Mo_flash_36 (by decide) ?_
  refine j_iconst (v := 1) hx d_Mo_flash_37 (by decide) ?_
  refine j_callVi hx (c_Mo_bad0 hG (up σ 111 0 0) 0 2 1 (by rfl) (by exact up_rd)) mo_Mo_bad mv_Mo_bad t_1584 (by decide) rfl (by decide) (sh_111 _ _) rfl rfl (Nat.le_of_ble_eq_true rfl) d_Mo_flash_38 ?_
  refine j_if_eq (tgt := 46) hx d_Mo_flash_41 (by decide) (fun _ => ?_) (fun zc41 => absurd (by decide) zc41)
  refine j_iload_n hx d_Mo_flash_46 rfl 2 rfl ?_
  refine j_istore_n hx [(3, .int m), (0, .ref (G.1 111)), (1, .int (nI j)), (2, .int m)] d_Mo_flash_47 rfl (by decide) rfl ?_
  have hl48 : ∀ (N9 : Nat) (n9 : Nat) (v : Int32), (fln ((up σ 111 0 0) (143 + j) 1) n9 v = fln ((up σ 111 0 0) (143 + j) 1) 9 m) → n9 = N9 → J l G X 4 (up σ 111 0 0) 48 [(0, .ref (G.1 111)), (1, .int (nI j)), (2, .int m), (3, .int v)] [] := by
    intro N9
    induction N9 using Nat.strongRecOn with
    | _ N9 ih48 =>
      intro n9 v hz hm48
      refine j_iload_n hx d_Mo_flash_48 rfl 3 rfl ?_
      refine j_aload_n hx d_Mo_flash_49 rfl 0 rfl ?_
      refine j_get hx ck_Mo 18 (by decide) t_1436 (by decide) (sh_111 _ _) rfl d_Mo_flash_50 ?_
      refine j_iload_n hx d_Mo_flash_53 rfl 1 rfl ?_
      have hz54_1 : zin (nI j) 6 j := by first | exact ⟨rfl, by decide⟩ | exact zin_nI (by omega) (by decide) | exact zin_of (by omega) (by omega)
      refine j_aaldk hx ias_light.1.1 (ias_light.2.1 _ _) hz54_1 d_Mo_flash_54 ?_
      refine j_iconst (v := 1) hx d_Mo_flash_55 (by decide) ?_
      have hz56_2 : zin (1) 2 1 := by first | exact ⟨rfl, by decide⟩ | exact zin_nI (by omega) (by decide) | exact zin_of (by omega) (by omega)
      refine j_ialdk hx (ias_light.2.2 _ hz54_1.2) hz56_2 d_Mo_flash_56 ?_
      refine j_callSi hx (c_Mo_isFlash hG (up σ 111 0 0) v ((up σ 111 0 0) (143 + j) 1) (by exact hw.2.1 _ hc9)) mo_Mo_isFlash t_1743 t_1742 (by decide) rfl rfl (Nat.le_of_ble_eq_true rfl) d_Mo_flash_57 ?_
      refine j_if_ne (tgt := 69) hx d_Mo_flash_60 (by decide) (fun zc60 => ?_) (fun zc60 => ?_)
      · skip
        refine j_iload_n hx d_Mo_flash_69 rfl 3 rfl ?_
        exact j_iret hx hq rfl d_Mo_flash_70 (by first | (exact (fln_at (b2_nz zc60)).symm.trans hz) | fail) (by first | (rfl) | fail)
      · skip
        refine j_iinc hx [(3, .int (v + 1)), (0, .ref (G.1 111)), (1, .int (nI j)), (2, .int m)] d_Mo_flash_63 3 rfl rfl (by decide) rfl ?_
        refine j_goto (tgt := 48) hx d_Mo_flash_66 (by decide) ?_
        refine J.lsub (ls' := [(0, .ref (G.1 111)), (1, .int (nI j)), (2, .int m), (3, .int (v + 1))]) [1, 2, 3, 0] rfl ?_
        refine J.to ?_ ?_ (ih48 _ ?_ (n9 - 1) (v + 1) ((fln_go hz hqf (b2_z zc60)).1.trans hz) rfl)
        · first | (rfl) | fail
        · first | (rfl) | fail
        · first | (have := (fln_go hz hqf (b2_z zc60)).2; omega) | fail
  refine J.lsub (ls' := [(0, .ref (G.1 111)), (1, .int (nI j)), (2, .int m), (3, .int m)]) [1, 2, 3, 0] rfl ?_
  refine J.to ?_ ?_ (hl48 _ 9 m rfl rfl)
  · first | (rfl) | fail
  · first | (rfl) | fail

set_option maxRecDepth 20000 in
set_option maxHeartbeats 4000000 in
theorem c_Mo_flashN {l : Launch} {G : Gz} (hG : zI G) (σ : St) (j : Int32) (m : Int32) (hT9 : 0 ≤ (σ 115 1).toInt) (hbad : ¬ (¬ j < 0 ∧ j < (up σ 111 0 0) 115 1)) : MI l G y_Mo_flash prog_14_method_94_code 4 .int 4 [.ref (G.1 111), .int j, .int m] σ 0 (mrf σ 1 0) := by
  refine MI.of hG (by decide) (Nat.le_of_ble_eq_true rfl) (fun X hx hq => ?_)
  show J l G X 4 σ 0 [(0, .ref (G.1 111)), (1, .int j), (2, .int m)] []
  refine j_aload_n hx d_Mo_flash_0 rfl 0 rfl ?_
  refine j_iconst (v := 0) hx d_Mo_flash_1 (by decide) ?_
  refine j_put hx ck_Mo 0 (by decide) t_1418 (by decide) (sh_111 _ _) rfl (Nat.le_of_ble_eq_true rfl) (sh_111 _ _) d_Mo_flash_2 ?_
  refine j_aload_n hx d_Mo_flash_5 rfl 0 rfl ?_
  refine j_aload_n hx d_Mo_flash_6 rfl 0 rfl ?_
  refine j_iconst (v := 1) hx d_Mo_flash_7 (by decide) ?_
  refine j_iload_n hx d_Mo_flash_8 rfl 1 rfl ?_
  refine j_callVi hx (c_Mo_isNo0 hG (up σ 111 0 0) 1 j (by decide) (by exact hT9) (by exact hbad)) mo_Mo_isNo mv_Mo_isNo t_1789 (by decide) rfl (by decide) (sh_111 _ _) rfl rfl (Nat.le_of_ble_eq_true rfl) d_Mo_flash_9 ?_
  refine j_iconst (v := 1) hx d_Mo_flash_12 (by decide) ?_
  refine j_iconst (v := 0) hx d_Mo_flash_13 (by decide) ?_
  refine j_callVi hx (c_Mo_bad1 hG (up σ 111 0 0) 1 1 0 (by decide) (by exact up_rd) (by decide) (by decide)) mo_Mo_bad mv_Mo_bad t_1584 (by decide) rfl (by decide) (sh_111 _ _) rfl rfl (Nat.le_of_ble_eq_true rfl) d_Mo_flash_14 ?_
  refine j_if_ne (tgt := 44) hx d_Mo_flash_17 (by decide) (fun _ => ?_) (fun zc17 => absurd zc17 (by decide))
  refine j_iconst (v := 0) hx d_Mo_flash_44 (by decide) ?_
  exact j_iret hx hq rfl d_Mo_flash_45 (by first | (rfl) | fail) (by first | (rfl) | fail)

set_option maxRecDepth 20000 in
set_option maxHeartbeats 4000000 in
theorem c_Mo_flashI {l : Launch} {G : Gz} (hG : zI G) (σ : St) (j : Int32) (m : Int32) (hc9 : ¬ j < 0 ∧ j < (up σ 111 0 0) 115 1) (hbad : ¬ (0 ≤ m ∧ m ≤ 99)) : MI l G y_Mo_flash prog_14_method_94_code 4 .int 4 [.ref (G.1 111), .int j, .int m] σ 0 (mrf σ 2 1) := by
  refine MI.of hG (by decide) (Nat.le_of_ble_eq_true rfl) (fun X hx hq => ?_)
  show J l G X 4 σ 0 [(0, .ref (G.1 111)), (1, .int j), (2, .int m)] []
  refine j_aload_n hx d_Mo_flash_0 rfl 0 rfl ?_
  refine j_iconst (v := 0) hx d_Mo_flash_1 (by decide) ?_
  refine j_put hx ck_Mo 0 (by decide) t_1418 (by decide) (sh_111 _ _) rfl (Nat.le_of_ble_eq_true rfl) (sh_111 _ _) d_Mo_flash_2 ?_
  refine j_aload_n hx d_Mo_flash_5 rfl 0 rfl ?_
  refine j_aload_n hx d_Mo_flash_6 rfl 0 rfl ?_
  refine j_iconst (v := 1) hx d_Mo_flash_7 (by decide) ?_
  refine j_iload_n hx d_Mo_flash_8 rfl 1 rfl ?_
  refine j_callVi hx (c_Mo_isNo1 hG (up σ 111 0 0) 1 j (by decide) (by exact hc9)) mo_Mo_isNo mv_Mo_isNo t_1789 (by decide) rfl (by decide) (sh_111 _ _) rfl rfl (Nat.le_of_ble_eq_true rfl) d_Mo_flash_9 ?_
  refine j_iconst (v := 1) hx d_Mo_flash_12 (by decide) ?_
  refine j_iconst (v := 0) hx d_Mo_flash_13 (by decide) ?_
  refine j_callVi hx (c_Mo_bad0 hG (up σ 111 0 0) 0 1 0 (by rfl) (by exact up_rd)) mo_Mo_bad mv_Mo_bad t_1584 (by decide) rfl (by decide) (sh_111 _ _) rfl rfl (Nat.le_of_ble_eq_true rfl) d_Mo_flash_14 ?_
  refine j_if_ne (tgt := 44) hx d_Mo_flash_17 (by decide) (fun zc17 => absurd rfl zc17) (fun _ => ?_)
  refine j_aload_n hx d_Mo_flash_20 rfl 0 rfl ?_
  refine j_iload_n hx d_Mo_flash_21 rfl 2 rfl ?_
  refine j_iconst (v := 0) hx d_Mo_flash_22 (by decide) ?_
  refine j_bipush (v := 99) hx d_Mo_flash_23 (by decide) ?_
  refine j_callSi hx (c_Mo_in0 hG (up σ 111 0 0) m 0 99 (by exact hbad)) mo_Mo_in t_1582 t_1581 (by decide) rfl rfl (Nat.le_of_ble_eq_true rfl) d_Mo_flash_25 ?_
  refine j_if_ne (tgt := 35) hx d_Mo_flash_28 (by decide) (fun zc28 => absurd rfl zc28) (fun _ => ?_)
  refine j_iconst (v := 1) hx d_Mo_flash_31 (by decide) ?_
  refine j_goto (tgt := 36) hx d_Mo_flash_32 (by decide) ?_
  refine j_iconst (v := 2) hx d_Mo_flash_36 (by decide) ?_
  refine j_iconst (v := 1) hx d_Mo_flash_37 (by decide) ?_
  refine j_callVi hx (c_Mo_bad1 hG (up σ 111 0 0) 1 2 1 (by decide) (by exact up_rd) (by decide) (by decide)) mo_Mo_bad mv_Mo_bad t_1584 (by decide) rfl (by decide) (sh_111 _ _) rfl rfl (Nat.le_of_ble_eq_true rfl) d_Mo_flash_38 ?_
  refine j_if_eq (tgt := 46) hx d_Mo_flash_41 (by decide) (fun zc41 => absurd zc41 (by decide)) (fun _ => ?_)
  refine j_iconst (v := 0) hx d_Mo_flash_44 (by decide) ?_
  exact j_iret hx hq rfl d_Mo_flash_45 (by first | (rfl) | fail) (by first | (rfl) | fail)

set_option maxRecDepth 20000 in
set_option maxHeartbeats 4000000 in
theorem c_Mo_alike {l : Launch} {G : Gz} (hG : zI G) (σ : St) (d : Nat) (j : Nat) (w : Int32) (hw : mW (up σ 111 0 0)) (hc9 : d < ct ((up σ 111 0 0) 115 2)) (hc18 : j < ct ((up σ 111 0 0) 115 1)) (hv41 : 0 ≤ w ∧ w ≤ 1) : MI l G y_Mo_alike prog_14_method_95_code 9 .int 9 [.ref (G.1 111), .int (nI d), .int (nI j), .int w] σ (if w = 0 then mlA (up σ 111 0 0) d j 30 else mlO (up σ 111 0 0) d j 30) (t0 σ) := by
  refine MI.of hG (by decide) (Nat.le_of_ble_eq_true rfl) (fun X hx hq => ?_)
  show J l G X 9 σ 0 [(0, .ref (G.1 111)), (1, .int (nI d)), (2, .int (nI j)), (3, .int w)] []
  have hb1 : ct ((up σ 111 0 0) 115 1) ≤ 6 := hw.1.2.1
  have hb2 : ct ((up σ 111 0 0) 115 2) ≤ 3 := hw.1.2.2.1
  have hb0 : ct ((up σ 111 0 0) 115 0) ≤ 12 := hw.1.1
  have hb3 : ct ((up σ 111 0 0) 115 3) ≤ 6 := hw.1.2.2.2.1
  have hb4 : ct ((up σ 111 0 0) 115 4) ≤ 6 := hw.1.2.2.2.2
  refine j_aload_n hx d_Mo_alike_0 rfl 0 rfl ?_
  refine j_iconst (v := 0) hx d_Mo_alike_1 (by decide) ?_
  refine j_put hx ck_Mo 0 (by decide) t_1418 (by decide) (sh_111 _ _) rfl (Nat.le_of_ble_eq_true rfl) (sh_111 _ _) d_Mo_alike_2 ?_
  refine j_aload_n hx d_Mo_alike_5 rfl 0 rfl ?_
  refine j_aload_n hx d_Mo_alike_6 rfl 0 rfl ?_
  refine j_iconst (v := 2) hx d_Mo_alike_7 (by decide) ?_
  refine j_iload_n hx d_Mo_alike_8 rfl 1 rfl ?_
  refine j_callVi hx (c_Mo_isNo1 hG (up σ 111 0 0) 2 (nI d) (by decide) (by exact vkz hc9)) mo_Mo_isNo mv_Mo_isNo t_1789 (by decide) rfl (by decide) (sh_111 _ _) rfl rfl (Nat.le_of_ble_eq_true rfl) d_Mo_alike_9 ?_
  refine j_if_ne (tgt := 24) hx d_Mo_alike_12 (by decide) (fun zc12 => absurd rfl zc12) (fun _ => ?_)
  refine j_aload_n hx d_Mo_alike_15 rfl 0 rfl ?_
  refine j_iconst (v := 1) hx d_Mo_alike_16 (by decide) ?_
  refine j_iload_n hx d_Mo_alike_17 rfl 2 rfl ?_
  refine j_callVi hx (c_Mo_isNo1 hG (up σ 111 0 0) 1 (nI j) (by decide) (by exact vkz hc18)) mo_Mo_isNo mv_Mo_isNo t_1789 (by decide) rfl (by decide) (sh_111 _ _) rfl rfl (Nat.le_of_ble_eq_true rfl) d_Mo_alike_18 ?_
  refine j_if_eq (tgt := 28) hx d_Mo_alike_21 (by decide) (fun _ => ?_) (fun zc21 => absurd (by decide) zc21)
  refine j_iconst (v := 0) hx d_Mo_alike_28 (by decide) ?_
  refine j_iconst (v := 1) hx d_Mo_alike_29 (by decide) ?_
  refine j_iconst (v := 0) hx d_Mo_alike_30 (by decide) ?_
  refine j_callVi hx (c_Mo_bad0 hG (up σ 111 0 0) 0 1 0 (by rfl) (by exact up_rd)) mo_Mo_bad mv_Mo_bad t_1584 (by decide) rfl (by decide) (sh_111 _ _) rfl rfl (Nat.le_of_ble_eq_true rfl) d_Mo_alike_31 ?_
  refine j_if_ne (tgt := 60) hx d_Mo_alike_34 (by decide) (fun zc34 => absurd rfl zc34) (fun _ => ?_)
  refine j_aload_n hx d_Mo_alike_37 rfl 0 rfl ?_
  refine j_iload_n hx d_Mo_alike_38 rfl 3 rfl ?_
  refine j_iconst (v := 0) hx d_Mo_alike_39 (by decide) ?_
  refine j_iconst (v := 1) hx d_Mo_alike_40 (by decide) ?_
  refine j_callSi hx (c_Mo_in1 hG (up σ 111 0 0) w 0 1 (by exact hv41)) mo_Mo_in t_1582 t_1581 (by decide) rfl rfl (Nat.le_of_ble_eq_true rfl) d_Mo_alike_41 ?_
  refine j_if_ne (tgt := 51) hx d_Mo_alike_44 (by decide) (fun _ => ?_) (fun zc44 => absurd zc44 (by decide))
  refine j_iconst (v := 0) hx d_Mo_alike_51 (by decide) ?_
  refine j_iconst (v := 2) hx d_Mo_alike_52 (by decide) ?_
  refine j_iconst (v := 1) hx d_Mo_alike_53 (by decide) ?_
  refine j_callVi hx (c_Mo_bad0 hG (up σ 111 0 0) 0 2 1 (by rfl) (by exact up_rd)) mo_Mo_bad mv_Mo_bad t_1584 (by decide) rfl (by decide) (sh_111 _ _) rfl rfl (Nat.le_of_ble_eq_true rfl) d_Mo_alike_54 ?_
  refine j_if_eq (tgt := 62) hx d_Mo_alike_57 (by decide) (fun _ => ?_) (fun zc57 => absurd (by decide) zc57)
  refine j_iconst (v := 0) hx d_Mo_alike_62 (by decide) ?_
  refine j_istore hx [(4, .int 0), (0, .ref (G.1 111)), (1, .int (nI d)), (2, .int (nI j)), (3, .int w)] d_Mo_alike_63 (by decide) rfl ?_
  refine j_iconst (v := 0) hx d_Mo_alike_65 (by decide) ?_
  refine j_istore hx [(5, .int 0), (4, .int 0), (0, .ref (G.1 111)), (1, .int (nI d)), (2, .int (nI j)), (3, .int w)] d_Mo_alike_66 (by decide) rfl ?_
  refine j_iconst (v := 0) hx d_Mo_alike_68 (by decide) ?_
  refine j_istore hx [(6, .int 0), (5, .int 0), (4, .int 0), (0, .ref (G.1 111)), (1, .int (nI d)), (2, .int (nI j)), (3, .int w)] d_Mo_alike_69 (by decide) rfl ?_
  have hl71 : ∀ (N9 : Nat) (i : Nat), (i ≤ 30) → 30 - i = N9 → J l G X 9 (up σ 111 0 0) 71 [(0, .ref (G.1 111)), (1, .int (nI d)), (2, .int (nI j)), (3, .int w), (4, .int (mlA (up σ 111 0 0) d j i)), (5, .int (mlO (up σ 111 0 0) d j i)), (6, .int (nI i))] [] := by
    intro N9
    induction N9 using Nat.strongRecOn with
    | _ N9 ih71 =>
      intro i hi_i hm71
      refine j_iload hx d_Mo_alike_71 6 rfl ?_
      refine j_bipush (v := 30) hx d_Mo_alike_73 (by decide) ?_
      refine j_icmp_ge (tgt := 157) hx d_Mo_alike_75 (by decide) (fun zc75 => ?_) (fun zc75 => ?_)
      · skip
        obtain rfl := nt_end (n := 30) hi_i (by decide) zc75
        refine j_iload_n hx d_Mo_alike_157 rfl 3 rfl ?_
        refine j_if_ne (tgt := 166) hx d_Mo_alike_158 (by decide) (fun zc158 => ?_) (fun zc158 => ?_)
        · skip
          refine j_iload hx d_Mo_alike_166 5 rfl ?_
          exact j_iret hx hq rfl d_Mo_alike_168 (by first | (first | exact (if_pos zc158).symm | exact (if_neg zc158).symm) | fail) (by first | (rfl) | fail)
        · skip
          refine j_iload hx d_Mo_alike_161 4 rfl ?_
          refine j_goto (tgt := 168) hx d_Mo_alike_163 (by decide) ?_
          exact j_iret hx hq rfl d_Mo_alike_168 (by first | (first | exact (if_pos zc158).symm | exact (if_neg zc158).symm) | fail) (by first | (rfl) | fail)
      · skip
        have hlt71 := nt_go (n := 30) hi_i (by decide) zc75
        refine j_iload hx d_Mo_alike_78 6 rfl ?_
        refine j_aload_n hx d_Mo_alike_80 rfl 0 rfl ?_
        refine j_get hx ck_Mo 20 (by decide) t_1438 (by decide) (sh_111 _ _) rfl d_Mo_alike_81 ?_
        refine j_iload_n hx d_Mo_alike_84 rfl 1 rfl ?_
        have hz85_1 : zin (nI d) 3 d := by first | exact ⟨rfl, by decide⟩ | exact zin_nI (by omega) (by decide) | exact zin_of (by omega) (by omega)
        refine j_aaldk hx ias_donkey.1.1 (ias_donkey.2.1 _ _) hz85_1 d_Mo_alike_85 ?_
        refine j_iconst (v := 1) hx d_Mo_alike_86 (by decide) ?_
        have hz87_2 : zin (1) 2 1 := by first | exact ⟨rfl, by decide⟩ | exact zin_nI (by omega) (by decide) | exact zin_of (by omega) (by omega)
        refine j_ialdk hx (ias_donkey.2.2 _ hz85_1.2) hz87_2 d_Mo_alike_87 ?_
        refine j_callSi hx (c_Mo_isFlash hG (up σ 111 0 0) (nI i) ((up σ 111 0 0) (152 + d) 1) (by exact hw.2.2.1 _ hc9)) mo_Mo_isFlash t_1743 t_1742 (by decide) rfl rfl (Nat.le_of_ble_eq_true rfl) d_Mo_alike_88 ?_
        refine j_istore hx [(7, .int (b2 (fl0 (nI i) ((up σ 111 0 0) (152 + d) 1)))), (0, .ref (G.1 111)), (1, .int (nI d)), (2, .int (nI j)), (3, .int w), (4, .int (mlA (up σ 111 0 0) d j i)), (5, .int (mlO (up σ 111 0 0) d j i)), (6, .int (nI i))] d_Mo_alike_91 (by decide) rfl ?_
        refine j_iload hx d_Mo_alike_93 7 rfl ?_
        refine j_aload_n hx d_Mo_alike_95 rfl 1 rfl ?_
        refine j_get hx ck_Mo 18 (by decide) t_1436 (by decide) (sh_111 _ _) rfl d_Mo_alike_96 ?_
        refine j_iload_n hx d_Mo_alike_99 rfl 3 rfl ?_
        have hz100_3 : zin (nI j) 6 j := by first | exact ⟨rfl, by decide⟩ | exact zin_nI (by omega) (by decide) | exact zin_of (by omega) (by omega)
        refine j_aaldk hx ias_light.1.1 (ias_light.2.1 _ _) hz100_3 d_Mo_alike_100 ?_
        refine j_iconst (v := 1) hx d_Mo_alike_101 (by decide) ?_
        have hz102_4 : zin (1) 2 1 := by first | exact ⟨rfl, by decide⟩ | exact zin_nI (by omega) (by decide) | exact zin_of (by omega) (by omega)
        refine j_ialdk hx (ias_light.2.2 _ hz100_3.2) hz102_4 d_Mo_alike_102 ?_
        refine j_callSi hx (c_Mo_isFlash hG (up σ 111 0 0) (nI i) ((up σ 111 0 0) (143 + j) 1) (by exact hw.2.1 _ hc18)) mo_Mo_isFlash t_1743 t_1742 (by decide) rfl rfl (Nat.le_of_ble_eq_true rfl) d_Mo_alike_103 ?_
        refine j_istore hx [(8, .int (b2 (fl0 (nI i) ((up σ 111 0 0) (143 + j) 1)))), (7, .int (b2 (fl0 (nI i) ((up σ 111 0 0) (152 + d) 1)))), (0, .ref (G.1 111)), (1, .int (nI d)), (2, .int (nI j)), (3, .int w), (4, .int (mlA (up σ 111 0 0) d j i)), (5, .int (mlO (up σ 111 0 0) d j i)), (6, .int (nI i))] d_Mo_alike_106 (by decide) rfl ?_
        refine j_iload hx d_Mo_alike_108 6 rfl ?_
        refine j_iload hx d_Mo_alike_110 1 rfl ?_
        refine j_if_eq (tgt := 127) hx d_Mo_alike_112 (by decide) (fun zc112 => ?_) (fun zc112 => ?_)
        · skip
          refine j_iconst (v := 0) hx d_Mo_alike_127 (by decide) ?_
          refine j_ior hx d_Mo_alike_128 ?_
          refine j_istore hx [(4, .int ((mlA (up σ 111 0 0) d j i) ||| 0)), (8, .int (b2 (fl0 (nI i) ((up σ 111 0 0) (143 + j) 1)))), (7, .int (b2 (fl0 (nI i) ((up σ 111 0 0) (152 + d) 1)))), (0, .ref (G.1 111)), (1, .int (nI d)), (2, .int (nI j)), (3, .int w), (5, .int (mlO (up σ 111 0 0) d j i)), (6, .int (nI i))] d_Mo_alike_129 (by decide) rfl ?_
          refine j_iload hx d_Mo_alike_131 7 rfl ?_
          refine j_iload hx d_Mo_alike_133 2 rfl ?_
          refine j_iload hx d_Mo_alike_135 1 rfl ?_
          refine j_icmp_eq (tgt := 147) hx d_Mo_alike_137 (by decide) (fun zc137 => ?_) (fun zc137 => ?_)
          · skip
            refine j_iconst (v := 0) hx d_Mo_alike_147 (by decide) ?_
            refine j_ior hx d_Mo_alike_148 ?_
            refine j_istore hx [(5, .int ((mlO (up σ 111 0 0) d j i) ||| 0)), (4, .int ((mlA (up σ 111 0 0) d j i) ||| 0)), (8, .int (b2 (fl0 (nI i) ((up σ 111 0 0) (143 + j) 1)))), (7, .int (b2 (fl0 (nI i) ((up σ 111 0 0) (152 + d) 1)))), (0, .ref (G.1 111)), (1, .int (nI d)), (2, .int (nI j)), (3, .int w), (6, .int (nI i))] d_Mo_alike_149 (by decide) rfl ?_
            refine j_iinc hx [(6, .int ((nI i) + 1)), (5, .int ((mlO (up σ 111 0 0) d j i) ||| 0)), (4, .int ((mlA (up σ 111 0 0) d j i) ||| 0)), (8, .int (b2 (fl0 (nI i) ((up σ 111 0 0) (143 + j) 1)))), (7, .int (b2 (fl0 (nI i) ((up σ 111 0 0) (152 + d) 1)))), (0, .ref (G.1 111)), (1, .int (nI d)), (2, .int (nI j)), (3, .int w)] d_Mo_alike_151 8 rfl rfl (by decide) rfl ?_
            refine j_goto (tgt := 71) hx d_Mo_alike_154 (by decide) ?_
            refine J.lsub (ls' := [(0, .ref (G.1 111)), (1, .int (nI d)), (2, .int (nI j)), (3, .int w), (4, .int ((mlA (up σ 111 0 0) d j i) ||| 0)), (5, .int ((mlO (up σ 111 0 0) d j i) ||| 0)), (6, .int ((nI i) + 1))]) [5, 6, 7, 8, 2, 1, 0] rfl ?_
            refine J.to ?_ ?_ (ih71 _ ?_ (i + 1) hlt71 rfl)
            · first | (first | rfl | (simp [zc75, zc112, zc137]; done)) | fail
            · first | (simp only [nI_s, mlA, mlO, bt_s]; first | (rw [if_pos (show alA (up σ 111 0 0) d j i from ⟨b2_nz zc112, b2_nz zc117⟩), if_pos (al_O zc137)]; done) | (rw [if_pos (show alA (up σ 111 0 0) d j i from ⟨b2_nz zc112, b2_nz zc117⟩), if_neg (al_N zc137)]; done) | (rw [if_neg (fun z : alA (up σ 111 0 0) d j i => b2_z zc112 z.1), if_pos (al_O zc137)]; done) | (rw [if_neg (fun z : alA (up σ 111 0 0) d j i => b2_z zc112 z.1), if_neg (al_N zc137)]; done) | (rw [if_neg (fun z : alA (up σ 111 0 0) d j i => b2_z zc117 z.2), if_pos (al_O zc137)]; done) | (rw [if_neg (fun z : alA (up σ 111 0 0) d j i => b2_z zc117 z.2), if_neg (al_N zc137)]; done)) | fail
            · first | (omega) | fail
          · skip
            refine j_iconst (v := 1) hx d_Mo_alike_140 (by decide) ?_
            refine j_iload hx d_Mo_alike_141 8 rfl ?_
            refine j_ishl hx d_Mo_alike_143 ?_
            refine j_goto (tgt := 148) hx d_Mo_alike_144 (by decide) ?_
            refine j_ior hx d_Mo_alike_148 ?_
            refine j_istore hx [(5, .int ((mlO (up σ 111 0 0) d j i) ||| (1 <<< ((nI i) &&& 31)))), (4, .int ((mlA (up σ 111 0 0) d j i) ||| 0)), (8, .int (b2 (fl0 (nI i) ((up σ 111 0 0) (143 + j) 1)))), (7, .int (b2 (fl0 (nI i) ((up σ 111 0 0) (152 + d) 1)))), (0, .ref (G.1 111)), (1, .int (nI d)), (2, .int (nI j)), (3, .int w), (6, .int (nI i))] d_Mo_alike_149 (by decide) rfl ?_
            refine j_iinc hx [(6, .int ((nI i) + 1)), (5, .int ((mlO (up σ 111 0 0) d j i) ||| (1 <<< ((nI i) &&& 31)))), (4, .int ((mlA (up σ 111 0 0) d j i) ||| 0)), (8, .int (b2 (fl0 (nI i) ((up σ 111 0 0) (143 + j) 1)))), (7, .int (b2 (fl0 (nI i) ((up σ 111 0 0) (152 + d) 1)))), (0, .ref (G.1 111)), (1, .int (nI d)), (2, .int (nI j)), (3, .int w)] d_Mo_alike_151 8 rfl rfl (by decide) rfl ?_
            refine j_goto (tgt := 71) hx d_Mo_alike_154 (by decide) ?_
            refine J.lsub (ls' := [(0, .ref (G.1 111)), (1, .int (nI d)), (2, .int (nI j)), (3, .int w), (4, .int ((mlA (up σ 111 0 0) d j i) ||| 0)), (5, .int ((mlO (up σ 111 0 0) d j i) ||| (1 <<< ((nI i) &&& 31)))), (6, .int ((nI i) + 1))]) [5, 6, 7, 8, 2, 1, 0] rfl ?_
            refine J.to ?_ ?_ (ih71 _ ?_ (i + 1) hlt71 rfl)
            · first | (first | rfl | (simp [zc75, zc112, zc137]; done)) | fail
            · first | (simp only [nI_s, mlA, mlO, bt_s]; first | (rw [if_pos (show alA (up σ 111 0 0) d j i from ⟨b2_nz zc112, b2_nz zc117⟩), if_pos (al_O zc137)]; done) | (rw [if_pos (show alA (up σ 111 0 0) d j i from ⟨b2_nz zc112, b2_nz zc117⟩), if_neg (al_N zc137)]; done) | (rw [if_neg (fun z : alA (up σ 111 0 0) d j i => b2_z zc112 z.1), if_pos (al_O zc137)]; done) | (rw [if_neg (fun z : alA (up σ 111 0 0) d j i => b2_z zc112 z.1), if_neg (al_N zc137)]; done) | (rw [if_neg (fun z : alA (up σ 111 0 0) d j i => b2_z zc117 z.2), if_pos (al_O zc137)]; done) | (rw [if_neg (fun z : alA (up σ 111 0 0) d j i => b2_z zc117 z.2), if_neg (al_N zc137)]; done)) | fail
            · first | (omega) | fail
        · skip
          refine j_iload hx d_Mo_alike_115 0 rfl ?_
          refine j_if_eq (tgt := 127) hx d_Mo_alike_117 (by decide) (fun zc117 => ?_) (fun zc117 => ?_)
          · skip
            refine j_iconst (v := 0) hx d_Mo_alike_127 (by decide) ?_
            refine j_ior hx d_Mo_alike_128 ?_
            refine j_istore hx [(4, .int ((mlA (up σ 111 0 0) d j i) ||| 0)), (8, .int (b2 (fl0 (nI i) ((up σ 111 0 0) (143 + j) 1)))), (7, .int (b2 (fl0 (nI i) ((up σ 111 0 0) (152 + d) 1)))), (0, .ref (G.1 111)), (1, .int (nI d)), (2, .int (nI j)), (3, .int w), (5, .int (mlO (up σ 111 0 0) d j i)), (6, .int (nI i))] d_Mo_alike_129 (by decide) rfl ?_
            refine j_iload hx d_Mo_alike_131 7 rfl ?_
            refine j_iload hx d_Mo_alike_133 2 rfl ?_
            refine j_iload hx d_Mo_alike_135 1 rfl ?_
            refine j_icmp_eq (tgt := 147) hx d_Mo_alike_137 (by decide) (fun zc137 => ?_) (fun zc137 => ?_)
            · skip
              refine j_iconst (v := 0) hx d_Mo_alike_147 (by decide) ?_
              refine j_ior hx d_Mo_alike_148 ?_
              refine j_istore hx [(5, .int ((mlO (up σ 111 0 0) d j i) ||| 0)), (4, .int ((mlA (up σ 111 0 0) d j i) ||| 0)), (8, .int (b2 (fl0 (nI i) ((up σ 111 0 0) (143 + j) 1)))), (7, .int (b2 (fl0 (nI i) ((up σ 111 0 0) (152 + d) 1)))), (0, .ref (G.1 111)), (1, .int (nI d)), (2, .int (nI j)), (3, .int w), (6, .int (nI i))] d_Mo_alike_149 (by decide) rfl ?_
              refine j_iinc hx [(6, .int ((nI i) + 1)), (5, .int ((mlO (up σ 111 0 0) d j i) ||| 0)), (4, .int ((mlA (up σ 111 0 0) d j i) ||| 0)), (8, .int (b2 (fl0 (nI i) ((up σ 111 0 0) (143 + j) 1)))), (7, .int (b2 (fl0 (nI i) ((up σ 111 0 0) (152 + d) 1)))), (0, .ref (G.1 111)), (1, .int (nI d)), (2, .int (nI j)), (3, .int w)] d_Mo_alike_151 8 rfl rfl (by decide) rfl ?_
              refine j_goto (tgt := 71) hx d_Mo_alike_154 (by decide) ?_
              refine J.lsub (ls' := [(0, .ref (G.1 111)), (1, .int (nI d)), (2, .int (nI j)), (3, .int w), (4, .int ((mlA (up σ 111 0 0) d j i) ||| 0)), (5, .int ((mlO (up σ 111 0 0) d j i) ||| 0)), (6, .int ((nI i) + 1))]) [5, 6, 7, 8, 2, 1, 0] rfl ?_
              refine J.to ?_ ?_ (ih71 _ ?_ (i + 1) hlt71 rfl)
              · first | (first | rfl | (simp [zc75, zc112, zc117, zc137]; done)) | fail
              · first | (simp only [nI_s, mlA, mlO, bt_s]; first | (rw [if_pos (show alA (up σ 111 0 0) d j i from ⟨b2_nz zc112, b2_nz zc117⟩), if_pos (al_O zc137)]; done) | (rw [if_pos (show alA (up σ 111 0 0) d j i from ⟨b2_nz zc112, b2_nz zc117⟩), if_neg (al_N zc137)]; done) | (rw [if_neg (fun z : alA (up σ 111 0 0) d j i => b2_z zc112 z.1), if_pos (al_O zc137)]; done) | (rw [if_neg (fun z : alA (up σ 111 0 0) d j i => b2_z zc112 z.1), if_neg (al_N zc137)]; done) | (rw [if_neg (fun z : alA (up σ 111 0 0) d j i => b2_z zc117 z.2), if_pos (al_O zc137)]; done) | (rw [if_neg (fun z : alA (up σ 111 0 0) d j i => b2_z zc117 z.2), if_neg (al_N zc137)]; done)) | fail
              · first | (omega) | fail
            · skip
              refine j_iconst (v := 1) hx d_Mo_alike_140 (by decide) ?_
              refine j_iload hx d_Mo_alike_141 8 rfl ?_
              refine j_ishl hx d_Mo_alike_143 ?_
              refine j_goto (tgt := 148) hx d_Mo_alike_144 (by decide) ?_
              refine j_ior hx d_Mo_alike_148 ?_
              refine j_istore hx [(5, .int ((mlO (up σ 111 0 0) d j i) ||| (1 <<< ((nI i) &&& 31)))), (4, .int ((mlA (up σ 111 0 0) d j i) ||| 0)), (8, .int (b2 (fl0 (nI i) ((up σ 111 0 0) (143 + j) 1)))), (7, .int (b2 (fl0 (nI i) ((up σ 111 0 0) (152 + d) 1)))), (0, .ref (G.1 111)), (1, .int (nI d)), (2, .int (nI j)), (3, .int w), (6, .int (nI i))] d_Mo_alike_149 (by decide) rfl ?_
              refine j_iinc hx [(6, .int ((nI i) + 1)), (5, .int ((mlO (up σ 111 0 0) d j i) ||| (1 <<< ((nI i) &&& 31)))), (4, .int ((mlA (up σ 111 0 0) d j i) ||| 0)), (8, .int (b2 (fl0 (nI i) ((up σ 111 0 0) (143 + j) 1)))), (7, .int (b2 (fl0 (nI i) ((up σ 111 0 0) (152 + d) 1)))), (0, .ref (G.1 111)), (1, .int (nI d)), (2, .int (nI j)), (3, .int w)] d_Mo_alike_151 8 rfl rfl (by decide) rfl ?_
              refine j_goto (tgt := 71) hx d_Mo_alike_154 (by decide) ?_
              refine J.lsub (ls' := [(0, .ref (G.1 111)), (1, .int (nI d)), (2, .int (nI j)), (3, .int w), (4, .int ((mlA (up σ 111 0 0) d j i) ||| 0)), (5, .int ((mlO (up σ 111 0 0) d j i) ||| (1 <<< ((nI i) &&& 31)))), (6, .int ((nI i) + 1))]) [5, 6, 7, 8, 2, 1, 0] rfl ?_
              refine J.to ?_ ?_ (ih71 _ ?_ (i + 1) hlt71 rfl)
              · first | (first | rfl | (simp [zc75, zc112, zc117, zc137]; done)) | fail
              · first | (simp only [nI_s, mlA, mlO, bt_s]; first | (rw [if_pos (show alA (up σ 111 0 0) d j i from ⟨b2_nz zc112, b2_nz zc117⟩), if_pos (al_O zc137)]; done) | (rw [if_pos (show alA (up σ 111 0 0) d j i from ⟨b2_nz zc112, b2_nz zc117⟩), if_neg (al_N zc137)]; done) | (rw [if_neg (fun z : alA (up σ 111 0 0) d j i => b2_z zc112 z.1), if_pos (al_O zc137)]; done) | (rw [if_neg (fun z : alA (up σ 111 0 0) d j i => b2_z zc112 z.1), if_neg (al_N zc137)]; done) | (rw [if_neg (fun z : alA (up σ 111 0 0) d j i => b2_z zc117 z.2), if_pos (al_O zc137)]; done) | (rw [if_neg (fun z : alA (up σ 111 0 0) d j i => b2_z zc117 z.2), if_neg (al_N zc137)]; done)) | fail
              · first | (omega) | fail
          · skip
            refine j_iconst (v := 1) hx d_Mo_alike_120 (by decide) ?_
            refine j_iload hx d_Mo_alike_121 8 rfl ?_
            refine j_ishl hx d_Mo_alike_123 ?_
            refine j_goto (tgt := 128) hx d_Mo_alike_124 (by decide) ?_
            refine j_ior hx d_Mo_alike_128 ?_
            refine j_istore hx [(4, .int ((mlA (up σ 111 0 0) d j i) ||| (1 <<< ((nI i) &&& 31)))), (8, .int (b2 (fl0 (nI i) ((up σ 111 0 0) (143 + j) 1)))), (7, .int (b2 (fl0 (nI i) ((up σ 111 0 0) (152 + d) 1)))), (0, .ref (G.1 111)), (1, .int (nI d)), (2, .int (nI j)), (3, .int w), (5, .int (mlO (up σ 111 0 0) d j i)), (6, .int (nI i))] d_Mo_alike_129 (by decide) rfl ?_
            refine j_iload hx d_Mo_alike_131 7 rfl ?_
            refine j_iload hx d_Mo_alike_133 2 rfl ?_
            refine j_iload hx d_Mo_alike_135 1 rfl ?_
            refine j_icmp_eq (tgt := 147) hx d_Mo_alike_137 (by decide) (fun zc137 => ?_) (fun zc137 => ?_)
            · skip
              refine j_iconst (v := 0) hx d_Mo_alike_147 (by decide) ?_
              refine j_ior hx d_Mo_alike_148 ?_
              refine j_istore hx [(5, .int ((mlO (up σ 111 0 0) d j i) ||| 0)), (4, .int ((mlA (up σ 111 0 0) d j i) ||| (1 <<< ((nI i) &&& 31)))), (8, .int (b2 (fl0 (nI i) ((up σ 111 0 0) (143 + j) 1)))), (7, .int (b2 (fl0 (nI i) ((up σ 111 0 0) (152 + d) 1)))), (0, .ref (G.1 111)), (1, .int (nI d)), (2, .int (nI j)), (3, .int w), (6, .int (nI i))] d_Mo_alike_149 (by decide) rfl ?_
              refine j_iinc hx [(6, .int ((nI i) + 1)), (5, .int ((mlO (up σ 111 0 0) d j i) ||| 0)), (4, .int ((mlA (up σ 111 0 0) d j i) ||| (1 <<< ((nI i) &&& 31)))), (8, .int (b2 (fl0 (nI i) ((up σ 111 0 0) (143 + j) 1)))), (7, .int (b2 (fl0 (nI i) ((up σ 111 0 0) (152 + d) 1)))), (0, .ref (G.1 111)), (1, .int (nI d)), (2, .int (nI j)), (3, .int w)] d_Mo_alike_151 8 rfl rfl (by decide) rfl ?_
              refine j_goto (tgt := 71) hx d_Mo_alike_154 (by decide) ?_
              refine J.lsub (ls' := [(0, .ref (G.1 111)), (1, .int (nI d)), (2, .int (nI j)), (3, .int w), (4, .int ((mlA (up σ 111 0 0) d j i) ||| (1 <<< ((nI i) &&& 31)))), (5, .int ((mlO (up σ 111 0 0) d j i) ||| 0)), (6, .int ((nI i) + 1))]) [5, 6, 7, 8, 2, 1, 0] rfl ?_
              refine J.to ?_ ?_ (ih71 _ ?_ (i + 1) hlt71 rfl)
              · first | (first | rfl | (simp [zc75, zc112, zc117, zc137]; done)) | fail
              · first | (simp only [nI_s, mlA, mlO, bt_s]; first | (rw [if_pos (show alA (up σ 111 0 0) d j i from ⟨b2_nz zc112, b2_nz zc117⟩), if_pos (al_O zc137)]; done) | (rw [if_pos (show alA (up σ 111 0 0) d j i from ⟨b2_nz zc112, b2_nz zc117⟩), if_neg (al_N zc137)]; done) | (rw [if_neg (fun z : alA (up σ 111 0 0) d j i => b2_z zc112 z.1), if_pos (al_O zc137)]; done) | (rw [if_neg (fun z : alA (up σ 111 0 0) d j i => b2_z zc112 z.1), if_neg (al_N zc137)]; done) | (rw [if_neg (fun z : alA (up σ 111 0 0) d j i => b2_z zc117 z.2), if_pos (al_O zc137)]; done) | (rw [if_neg (fun z : alA (up σ 111 0 0) d j i => b2_z zc117 z.2), if_neg (al_N zc137)]; done)) | fail
              · first | (omega) | fail
            · skip
              refine j_iconst (v := 1) hx d_Mo_alike_140 (by decide) ?_
              refine j_iload hx d_Mo_alike_141 8 rfl ?_
              refine j_ishl hx d_Mo_alike_143 ?_
              refine j_goto (tgt := 148) hx d_Mo_alike_144 (by decide) ?_
              refine j_ior hx d_Mo_alike_148 ?_
              refine j_istore hx [(5, .int ((mlO (up σ 111 0 0) d j i) ||| (1 <<< ((nI i) &&& 31)))), (4, .int ((mlA (up σ 111 0 0) d j i) ||| (1 <<< ((nI i) &&& 31)))), (8, .int (b2 (fl0 (nI i) ((up σ 111 0 0) (143 + j) 1)))), (7, .int (b2 (fl0 (nI i) ((up σ 111 0 0) (152 + d) 1)))), (0, .ref (G.1 111)), (1, .int (nI d)), (2, .int (nI j)), (3, .int w), (6, .int (nI i))] d_Mo_alike_149 (by decide) rfl ?_
              refine j_iinc hx [(6, .int ((nI i) + 1)), (5, .int ((mlO (up σ 111 0 0) d j i) ||| (1 <<< ((nI i) &&& 31)))), (4, .int ((mlA (up σ 111 0 0) d j i) ||| (1 <<< ((nI i) &&& 31)))), (8, .int (b2 (fl0 (nI i) ((up σ 111 0 0) (143 + j) 1)))), (7, .int (b2 (fl0 (nI i) ((up σ 111 0 0) (152 + d) 1)))), (0, .ref (G.1 111)), (1, .int (nI d)), (2, .int (nI j)), (3, .int w)] d_Mo_alike_151 8 rfl rfl (by decide) rfl ?_
              refine j_goto (tgt := 71) hx d_Mo_alike_154 (by decide) ?_
              refine J.lsub (ls' := [(0, .ref (G.1 111)), (1, .int (nI d)), (2, .int (nI j)), (3, .int w), (4, .int ((mlA (up σ 111 0 0) d j i) ||| (1 <<< ((nI i) &&& 31)))), (5, .int ((mlO (up σ 111 0 0) d j i) ||| (1 <<< ((nI i) &&& 31)))), (6, .int ((nI i) + 1))]) [5, 6, 7, 8, 2, 1, 0] rfl ?_
              refine J.to ?_ ?_ (ih71 _ ?_ (i + 1) hlt71 rfl)
              · first | (first | rfl | (simp [zc75, zc112, zc117, zc137]; done)) | fail
              · first | (simp only [nI_s, mlA, mlO, bt_s]; first | (rw [if_pos (show alA (up σ 111 0 0) d j i from ⟨b2_nz zc112, b2_nz zc117⟩), if_pos (al_O zc137)]; done) | (rw [if_pos (show alA (up σ 111 0 0) d j i from ⟨b2_nz zc112, b2_nz zc117⟩), if_neg (al_N zc137)]; done) | (rw [if_neg (fun z : alA (up σ 111 0 0) d j i => b2_z zc112 z.1), if_pos (al_O zc137)]; done) | (rw [if_neg (fun z : alA (up σ 111 0 0) d j i => b2_z zc112 z.1), if_neg (al_N zc137)]; done) | (rw [if_neg (fun z : alA (up σ 111 0 0) d j i => b2_z zc117 z.2), if_pos (al_O zc137)]; done) | (rw [if_neg (fun z : alA (up σ 111 0 0) d j i => b2_z zc117 z.2), if_neg (al_N zc137)]; done)) | fail
              · first | (omega) | fail
  refine J.lsub (ls' := [(0, .ref (G.1 111)), (1, .int (nI d)), (2, .int (nI j)), (3, .int w), (4, .int 0), (5, .int 0), (6, .int 0)]) [3, 4, 5, 6, 2, 1, 0] rfl ?_
  refine J.to ?_ ?_ (hl71 _ 0 (Nat.zero_le _) rfl)
  · first | (first | rfl | (simp []; done)) | fail
  · first | (rfl) | fail

set_option maxRecDepth 20000 in
set_option maxHeartbeats 4000000 in
theorem c_Mo_alikeN {l : Launch} {G : Gz} (hG : zI G) (σ : St) (d : Int32) (j : Int32) (w : Int32) (hT9 : 0 ≤ (σ 115 2).toInt) (hT18 : 0 ≤ (σ 115 1).toInt) (hbad : ¬ ((¬ d < 0 ∧ d < (up σ 111 0 0) 115 2) ∧ (¬ j < 0 ∧ j < (up σ 111 0 0) 115 1))) : MI l G y_Mo_alike prog_14_method_95_code 9 .int 4 [.ref (G.1 111), .int d, .int j, .int w] σ 0 (mrf σ 1 0) := by
  refine MI.of hG (by decide) (Nat.le_of_ble_eq_true rfl) (fun X hx hq => ?_)
  show J l G X 9 σ 0 [(0, .ref (G.1 111)), (1, .int d), (2, .int j), (3, .int w)] []
  refine j_aload_n hx d_Mo_alike_0 rfl 0 rfl ?_
  refine j_iconst (v := 0) hx d_Mo_alike_1 (by decide) ?_
  refine j_put hx ck_Mo 0 (by decide) t_1418 (by decide) (sh_111 _ _) rfl (Nat.le_of_ble_eq_true rfl) (sh_111 _ _) d_Mo_alike_2 ?_
  refine j_aload_n hx d_Mo_alike_5 rfl 0 rfl ?_
  refine j_aload_n hx d_Mo_alike_6 rfl 0 rfl ?_
  refine j_iconst (v := 2) hx d_Mo_alike_7 (by decide) ?_
  refine j_iload_n hx d_Mo_alike_8 rfl 1 rfl ?_
  by_cases hn9 : ¬ d < 0 ∧ d < (up σ 111 0 0) 115 2
  · skip
    refine j_callVi hx (c_Mo_isNo1 hG (up σ 111 0 0) 2 d (by decide) (by exact hn9)) mo_Mo_isNo mv_Mo_isNo t_1789 (by decide) rfl (by decide) (sh_111 _ _) rfl rfl (Nat.le_of_ble_eq_true rfl) d_Mo_alike_9 ?_
    refine j_if_ne (tgt := 24) hx d_Mo_alike_12 (by decide) (fun zc12 => absurd rfl zc12) (fun _ => ?_)
    refine j_aload_n hx d_Mo_alike_15 rfl 0 rfl ?_
    refine j_iconst (v := 1) hx d_Mo_alike_16 (by decide) ?_
    refine j_iload_n hx d_Mo_alike_17 rfl 2 rfl ?_
    by_cases hn18 : ¬ j < 0 ∧ j < (up σ 111 0 0) 115 1
    · skip
      exact absurd ⟨hn9, hn18⟩ hbad
    refine j_callVi hx (c_Mo_isNo0 hG (up σ 111 0 0) 1 j (by decide) (by exact hT18) (by exact hn18)) mo_Mo_isNo mv_Mo_isNo t_1789 (by decide) rfl (by decide) (sh_111 _ _) rfl rfl (Nat.le_of_ble_eq_true rfl) d_Mo_alike_18 ?_
    refine j_if_eq (tgt := 28) hx d_Mo_alike_21 (by decide) (fun zc21 => absurd zc21 (by decide)) (fun _ => ?_)
    refine j_iconst (v := 1) hx d_Mo_alike_24 (by decide) ?_
    refine j_goto (tgt := 29) hx d_Mo_alike_25 (by decide) ?_
    refine j_iconst (v := 1) hx d_Mo_alike_29 (by decide) ?_
    refine j_iconst (v := 0) hx d_Mo_alike_30 (by decide) ?_
    refine j_callVi hx (c_Mo_bad1 hG (up σ 111 0 0) 1 1 0 (by decide) (by exact up_rd) (by decide) (by decide)) mo_Mo_bad mv_Mo_bad t_1584 (by decide) rfl (by decide) (sh_111 _ _) rfl rfl (Nat.le_of_ble_eq_true rfl) d_Mo_alike_31 ?_
    refine j_if_ne (tgt := 60) hx d_Mo_alike_34 (by decide) (fun _ => ?_) (fun zc34 => absurd zc34 (by decide))
    refine j_iconst (v := 0) hx d_Mo_alike_60 (by decide) ?_
    exact j_iret hx hq rfl d_Mo_alike_61 (by first | (rfl) | fail) (by first | (rfl) | fail)
  refine j_callVi hx (c_Mo_isNo0 hG (up σ 111 0 0) 2 d (by decide) (by exact hT9) (by exact hn9)) mo_Mo_isNo mv_Mo_isNo t_1789 (by decide) rfl (by decide) (sh_111 _ _) rfl rfl (Nat.le_of_ble_eq_true rfl) d_Mo_alike_9 ?_
  refine j_if_ne (tgt := 24) hx d_Mo_alike_12 (by decide) (fun _ => ?_) (fun zc12 => absurd zc12 (by decide))
  refine j_iconst (v := 1) hx d_Mo_alike_24 (by decide) ?_
  refine j_goto (tgt := 29) hx d_Mo_alike_25 (by decide) ?_
  refine j_iconst (v := 1) hx d_Mo_alike_29 (by decide) ?_
  refine j_iconst (v := 0) hx d_Mo_alike_30 (by decide) ?_
  refine j_callVi hx (c_Mo_bad1 hG (up σ 111 0 0) 1 1 0 (by decide) (by exact up_rd) (by decide) (by decide)) mo_Mo_bad mv_Mo_bad t_1584 (by decide) rfl (by decide) (sh_111 _ _) rfl rfl (Nat.le_of_ble_eq_true rfl) d_Mo_alike_31 ?_
  refine j_if_ne (tgt := 60) hx d_Mo_alike_34 (by decide) (fun _ => ?_) (fun zc34 => absurd zc34 (by decide))
  refine j_iconst (v := 0) hx d_Mo_alike_60 (by decide) ?_
  exact j_iret hx hq rfl d_Mo_alike_61 (by first | (rfl) | fail) (by first | (rfl) | fail)

set_option maxRecDepth 20000 in
set_option maxHeartbeats 4000000 in
theorem c_Mo_alikeI {l : Launch} {G : Gz} (hG : zI G) (σ : St) (d : Int32) (j : Int32) (w : Int32) (hc9 : ¬ d < 0 ∧ d < (up σ 111 0 0) 115 2) (hc18 : ¬ j < 0 ∧ j < (up σ 111 0 0) 115 1) (hbad : ¬ (0 ≤ w ∧ w ≤ 1)) : MI l G y_Mo_alike prog_14_method_95_code 9 .int 4 [.ref (G.1 111), .int d, .int j, .int w] σ 0 (mrf σ 2 1) := by
  refine MI.of hG (by decide) (Nat.le_of_ble_eq_true rfl) (fun X hx hq => ?_)
  show J l G X 9 σ 0 [(0, .ref (G.1 111)), (1, .int d), (2, .int j), (3, .int w)] []
  refine j_aload_n hx d_Mo_alike_0 rfl 0 rfl ?_
  refine j_iconst (v := 0) hx d_Mo_alike_1 (by decide) ?_
  refine j_put hx ck_Mo 0 (by decide) t_1418 (by decide) (sh_111 _ _) rfl (Nat.le_of_ble_eq_true rfl) (sh_111 _ _) d_Mo_alike_2 ?_
  refine j_aload_n hx d_Mo_alike_5 rfl 0 rfl ?_
  refine j_aload_n hx d_Mo_alike_6 rfl 0 rfl ?_
  refine j_iconst (v := 2) hx d_Mo_alike_7 (by decide) ?_
  refine j_iload_n hx d_Mo_alike_8 rfl 1 rfl ?_
  refine j_callVi hx (c_Mo_isNo1 hG (up σ 111 0 0) 2 d (by decide) (by exact hc9)) mo_Mo_isNo mv_Mo_isNo t_1789 (by decide) rfl (by decide) (sh_111 _ _) rfl rfl (Nat.le_of_ble_eq_true rfl) d_Mo_alike_9 ?_
  refine j_if_ne (tgt := 24) hx d_Mo_alike_12 (by decide) (fun zc12 => absurd rfl zc12) (fun _ => ?_)
  refine j_aload_n hx d_Mo_alike_15 rfl 0 rfl ?_
  refine j_iconst (v := 1) hx d_Mo_alike_16 (by decide) ?_
  refine j_iload_n hx d_Mo_alike_17 rfl 2 rfl ?_
  refine j_callVi hx (c_Mo_isNo1 hG (up σ 111 0 0) 1 j (by decide) (by exact hc18)) mo_Mo_isNo mv_Mo_isNo t_1789 (by decide) rfl (by decide) (sh_111 _ _) rfl rfl (Nat.le_of_ble_eq_true rfl) d_Mo_alike_18 ?_
  refine j_if_eq (tgt := 28) hx d_Mo_alike_21 (by decide) (fun _ => ?_) (fun zc21 => absurd (by decide) zc21)
  refine j_iconst (v := 0) hx d_Mo_alike_28 (by decide) ?_
  refine j_iconst (v := 1) hx d_Mo_alike_29 (by decide) ?_
  refine j_iconst (v := 0) hx d_Mo_alike_30 (by decide) ?_
  refine j_callVi hx (c_Mo_bad0 hG (up σ 111 0 0) 0 1 0 (by rfl) (by exact up_rd)) mo_Mo_bad mv_Mo_bad t_1584 (by decide) rfl (by decide) (sh_111 _ _) rfl rfl (Nat.le_of_ble_eq_true rfl) d_Mo_alike_31 ?_
  refine j_if_ne (tgt := 60) hx d_Mo_alike_34 (by decide) (fun zc34 => absurd rfl zc34) (fun _ => ?_)
  refine j_aload_n hx d_Mo_alike_37 rfl 0 rfl ?_
  refine j_iload_n hx d_Mo_alike_38 rfl 3 rfl ?_
  refine j_iconst (v := 0) hx d_Mo_alike_39 (by decide) ?_
  refine j_iconst (v := 1) hx d_Mo_alike_40 (by decide) ?_
  refine j_callSi hx (c_Mo_in0 hG (up σ 111 0 0) w 0 1 (by exact hbad)) mo_Mo_in t_1582 t_1581 (by decide) rfl rfl (Nat.le_of_ble_eq_true rfl) d_Mo_alike_41 ?_
  refine j_if_ne (tgt := 51) hx d_Mo_alike_44 (by decide) (fun zc44 => absurd rfl zc44) (fun _ => ?_)
  refine j_iconst (v := 1) hx d_Mo_alike_47 (by decide) ?_
  refine j_goto (tgt := 52) hx d_Mo_alike_48 (by decide) ?_
  refine j_iconst (v := 2) hx d_Mo_alike_52 (by decide) ?_
  refine j_iconst (v := 1) hx d_Mo_alike_53 (by decide) ?_
  refine j_callVi hx (c_Mo_bad1 hG (up σ 111 0 0) 1 2 1 (by decide) (by exact up_rd) (by decide) (by decide)) mo_Mo_bad mv_Mo_bad t_1584 (by decide) rfl (by decide) (sh_111 _ _) rfl rfl (Nat.le_of_ble_eq_true rfl) d_Mo_alike_54 ?_
  refine j_if_eq (tgt := 62) hx d_Mo_alike_57 (by decide) (fun zc57 => absurd zc57 (by decide)) (fun _ => ?_)
  refine j_iconst (v := 0) hx d_Mo_alike_60 (by decide) ?_
  exact j_iret hx hq rfl d_Mo_alike_61 (by first | (rfl) | fail) (by first | (rfl) | fail)

set_option maxRecDepth 20000 in
set_option maxHeartbeats 4000000 in
theorem c_Mo_blind {l : Launch} {G : Gz} (hG : zI G) (σ : St) (s : Nat) (hw : mW (up σ 111 0 0)) (hr : rW (up σ 111 0 0) 122) (hc9 : s < ct ((up σ 111 0 0) 115 3)) : MI l G y_Mo_blind prog_14_method_96_code 2 .int 9 [.ref (G.1 111), .int (nI s)] σ (trF (up σ 111 0 0) 122 s 111 45) (trF (up σ 111 0 0) 122 s) := by
  refine MI.of hG (by decide) (Nat.le_of_ble_eq_true rfl) (fun X hx hq => ?_)
  show J l G X 2 σ 0 [(0, .ref (G.1 111)), (1, .int (nI s))] []
  have hb1 : ct ((up σ 111 0 0) 115 1) ≤ 6 := hw.1.2.1
  have hb2 : ct ((up σ 111 0 0) 115 2) ≤ 3 := hw.1.2.2.1
  have hb0 : ct ((up σ 111 0 0) 115 0) ≤ 12 := hw.1.1
  have hb3 : ct ((up σ 111 0 0) 115 3) ≤ 6 := hw.1.2.2.2.1
  have hb4 : ct ((up σ 111 0 0) 115 4) ≤ 6 := hw.1.2.2.2.2
  refine j_aload_n hx d_Mo_blind_0 rfl 0 rfl ?_
  refine j_iconst (v := 0) hx d_Mo_blind_1 (by decide) ?_
  refine j_put hx ck_Mo 0 (by decide) t_1418 (by decide) (sh_111 _ _) rfl (Nat.le_of_ble_eq_true rfl) (sh_111 _ _) d_Mo_blind_2 ?_
  refine j_aload_n hx d_Mo_blind_5 rfl 0 rfl ?_
  refine j_aload_n hx d_Mo_blind_6 rfl 0 rfl ?_
  refine j_iconst (v := 3) hx d_Mo_blind_7 (by decide) ?_
  refine j_iload_n hx d_Mo_blind_8 rfl 1 rfl ?_
  refine j_callVi hx (c_Mo_isNo1 hG (up σ 111 0 0) 3 (nI s) (by decide) (by exact vkz hc9)) mo_Mo_isNo mv_Mo_isNo t_1789 (by decide) rfl (by decide) (sh_111 _ _) rfl rfl (Nat.le_of_ble_eq_true rfl) d_Mo_blind_9 ?_
  refine j_iconst (v := 1) hx d_Mo_blind_12 (by decide) ?_
  refine j_iconst (v := 0) hx d_Mo_blind_13 (by decide) ?_
  refine j_callVi hx (c_Mo_bad0 hG (up σ 111 0 0) 0 1 0 (by rfl) (by exact up_rd)) mo_Mo_bad mv_Mo_bad t_1584 (by decide) rfl (by decide) (sh_111 _ _) rfl rfl (Nat.le_of_ble_eq_true rfl) d_Mo_blind_14 ?_
  refine j_if_eq (tgt := 22) hx d_Mo_blind_17 (by decide) (fun _ => ?_) (fun zc17 => absurd (by decide) zc17)
  refine j_aload_n hx d_Mo_blind_22 rfl 0 rfl ?_
  refine j_aload_n hx d_Mo_blind_23 rfl 0 rfl ?_
  refine j_get hx ck_Mo 33 (by decide) t_1451 (by decide) (sh_111 _ _) rfl d_Mo_blind_24 ?_
  refine j_iload_n hx d_Mo_blind_27 rfl 1 rfl ?_
  refine j_callVv hx (c_Mo_tries hG ia_122 (up σ 111 0 0) s (by omega) (by exact hw) (by exact hr) (by decide) (by decide) (by decide)) mo_Mo_tries mv_Mo_tries t_1727 (by decide) rfl (by decide) (sh_111 _ _) rfl rfl (Nat.le_of_ble_eq_true rfl) d_Mo_blind_28 ?_
  refine j_aload_n hx d_Mo_blind_31 rfl 0 rfl ?_
  refine j_get hx ck_Mo 45 (by decide) t_1463 (by decide) (sh_111 _ _) rfl d_Mo_blind_32 ?_
  exact j_iret hx hq rfl d_Mo_blind_35 (by first | (rfl) | fail) (by first | (rfl) | fail)

set_option maxRecDepth 20000 in
set_option maxHeartbeats 4000000 in
theorem c_Mo_blindN {l : Launch} {G : Gz} (hG : zI G) (σ : St) (s : Int32) (hT9 : 0 ≤ (σ 115 3).toInt) (hbad : ¬ (¬ s < 0 ∧ s < (up σ 111 0 0) 115 3)) : MI l G y_Mo_blind prog_14_method_96_code 2 .int 4 [.ref (G.1 111), .int s] σ 0 (mrf σ 1 0) := by
  refine MI.of hG (by decide) (Nat.le_of_ble_eq_true rfl) (fun X hx hq => ?_)
  show J l G X 2 σ 0 [(0, .ref (G.1 111)), (1, .int s)] []
  refine j_aload_n hx d_Mo_blind_0 rfl 0 rfl ?_
  refine j_iconst (v := 0) hx d_Mo_blind_1 (by decide) ?_
  refine j_put hx ck_Mo 0 (by decide) t_1418 (by decide) (sh_111 _ _) rfl (Nat.le_of_ble_eq_true rfl) (sh_111 _ _) d_Mo_blind_2 ?_
  refine j_aload_n hx d_Mo_blind_5 rfl 0 rfl ?_
  refine j_aload_n hx d_Mo_blind_6 rfl 0 rfl ?_
  refine j_iconst (v := 3) hx d_Mo_blind_7 (by decide) ?_
  refine j_iload_n hx d_Mo_blind_8 rfl 1 rfl ?_
  refine j_callVi hx (c_Mo_isNo0 hG (up σ 111 0 0) 3 s (by decide) (by exact hT9) (by exact hbad)) mo_Mo_isNo mv_Mo_isNo t_1789 (by decide) rfl (by decide) (sh_111 _ _) rfl rfl (Nat.le_of_ble_eq_true rfl) d_Mo_blind_9 ?_
  refine j_iconst (v := 1) hx d_Mo_blind_12 (by decide) ?_
  refine j_iconst (v := 0) hx d_Mo_blind_13 (by decide) ?_
  refine j_callVi hx (c_Mo_bad1 hG (up σ 111 0 0) 1 1 0 (by decide) (by exact up_rd) (by decide) (by decide)) mo_Mo_bad mv_Mo_bad t_1584 (by decide) rfl (by decide) (sh_111 _ _) rfl rfl (Nat.le_of_ble_eq_true rfl) d_Mo_blind_14 ?_
  refine j_if_eq (tgt := 22) hx d_Mo_blind_17 (by decide) (fun zc17 => absurd zc17 (by decide)) (fun _ => ?_)
  refine j_iconst (v := 0) hx d_Mo_blind_20 (by decide) ?_
  exact j_iret hx hq rfl d_Mo_blind_21 (by first | (rfl) | fail) (by first | (rfl) | fail)

set_option maxRecDepth 20000 in
set_option maxHeartbeats 4000000 in
theorem c_Mo_brightest {l : Launch} {G : Gz} (hG : zI G) (σ : St) (w : Int32) (hw : mW (up σ 111 0 0)) (hr : rW (up σ 111 0 0) 122) (hv9 : 0 ≤ w ∧ w ≤ 1) : MI l G y_Mo_brightest prog_14_method_97_code 6 .int 9 [.ref (G.1 111), .int w] σ (if w = 0 then (mbr (up σ 111 0 0) (ct ((up σ 111 0 0) 115 0))).1 else (mbr (up σ 111 0 0) (ct ((up σ 111 0 0) 115 0))).2) (t0 σ) := by
  refine MI.of hG (by decide) (Nat.le_of_ble_eq_true rfl) (fun X hx hq => ?_)
  show J l G X 6 σ 0 [(0, .ref (G.1 111)), (1, .int w)] []
  refine j_aload_n hx d_Mo_brightest_0 rfl 0 rfl ?_
  refine j_iconst (v := 0) hx d_Mo_brightest_1 (by decide) ?_
  refine j_put hx ck_Mo 0 (by decide) t_1418 (by decide) (sh_111 _ _) rfl (Nat.le_of_ble_eq_true rfl) (sh_111 _ _) d_Mo_brightest_2 ?_
  refine j_aload_n hx d_Mo_brightest_5 rfl 0 rfl ?_
  refine j_iload_n hx d_Mo_brightest_6 rfl 1 rfl ?_
  refine j_iconst (v := 0) hx d_Mo_brightest_7 (by decide) ?_
  refine j_iconst (v := 1) hx d_Mo_brightest_8 (by decide) ?_
  refine j_callSi hx (c_Mo_in1 hG (up σ 111 0 0) w 0 1 (by exact hv9)) mo_Mo_in t_1582 t_1581 (by decide) rfl rfl (Nat.le_of_ble_eq_true rfl) d_Mo_brightest_9 ?_
  refine j_if_ne (tgt := 19) hx d_Mo_brightest_12 (by decide) (fun _ => ?_) (fun zc12 => absurd zc12 (by decide))
  refine j_iconst (v := 0) hx d_Mo_brightest_19 (by decide) ?_
  refine j_iconst (v := 1) hx d_Mo_brightest_20 (by decide) ?_
  refine j_iconst (v := 1) hx d_Mo_brightest_21 (by decide) ?_
  refine j_callVi hx (c_Mo_bad0 hG (up σ 111 0 0) 0 1 1 (by rfl) (by exact up_rd)) mo_Mo_bad mv_Mo_bad t_1584 (by decide) rfl (by decide) (sh_111 _ _) rfl rfl (Nat.le_of_ble_eq_true rfl) d_Mo_brightest_22 ?_
  refine j_if_eq (tgt := 30) hx d_Mo_brightest_25 (by decide) (fun _ => ?_) (fun zc25 => absurd (by decide) zc25)
  refine j_iconst (v := (-1)) hx d_Mo_brightest_30 (by decide) ?_
  refine j_istore_n hx [(2, .int ((-1))), (0, .ref (G.1 111)), (1, .int w)] d_Mo_brightest_31 rfl (by decide) rfl ?_
  refine j_iconst (v := (-1)) hx d_Mo_brightest_32 (by decide) ?_
  refine j_istore_n hx [(3, .int ((-1))), (2, .int ((-1))), (0, .ref (G.1 111)), (1, .int w)] d_Mo_brightest_33 rfl (by decide) rfl ?_
  refine j_iconst (v := 0) hx d_Mo_brightest_34 (by decide) ?_
  refine j_istore hx [(4, .int 0), (3, .int ((-1))), (2, .int ((-1))), (0, .ref (G.1 111)), (1, .int w)] d_Mo_brightest_35 (by decide) rfl ?_
  have hl37 : ∀ (N9 : Nat) (i : Nat), (i ≤ (ct ((up σ 111 0 0) 115 0))) → (ct ((up σ 111 0 0) 115 0)) - i = N9 → J l G X 6 (up σ 111 0 0) 37 [(0, .ref (G.1 111)), (1, .int w), (2, .int ((mbr (up σ 111 0 0) i).1)), (3, .int ((mbr (up σ 111 0 0) i).2)), (4, .int (nI i))] [] := by
    intro N9
    induction N9 using Nat.strongRecOn with
    | _ N9 ih37 =>
      intro i hi_i hm37
      refine j_iload hx d_Mo_brightest_37 4 rfl ?_
      refine j_aload_n hx d_Mo_brightest_39 rfl 0 rfl ?_
      refine j_get hx ck_Mo 12 (by decide) t_1430 (by decide) (sh_111 _ _) rfl d_Mo_brightest_40 ?_
      refine j_iconst (v := 0) hx d_Mo_brightest_43 (by decide) ?_
      have hz44_1 : zin (0) 6 0 := by first | exact ⟨rfl, by decide⟩ | exact zin_nI (by omega) (by decide) | exact zin_of (by omega) (by omega)
      refine j_ialdk hx ia_115 hz44_1 d_Mo_brightest_44 ?_
      refine j_icmp_ge (tgt := 83) hx d_Mo_brightest_45 (by decide) (fun zc45 => ?_) (fun zc45 => ?_)
      · skip
        obtain rfl := ct_end' hi_i zc45
        refine j_iload_n hx d_Mo_brightest_83 rfl 1 rfl ?_
        refine j_if_ne (tgt := 91) hx d_Mo_brightest_84 (by decide) (fun zc84 => ?_) (fun zc84 => ?_)
        · skip
          refine j_iload_n hx d_Mo_brightest_91 rfl 3 rfl ?_
          exact j_iret hx hq rfl d_Mo_brightest_92 (by first | (first | exact (if_pos zc84).symm | exact (if_neg zc84).symm) | fail) (by first | (rfl) | fail)
        · skip
          refine j_iload_n hx d_Mo_brightest_87 rfl 2 rfl ?_
          refine j_goto (tgt := 92) hx d_Mo_brightest_88 (by decide) ?_
          exact j_iret hx hq rfl d_Mo_brightest_92 (by first | (first | exact (if_pos zc84).symm | exact (if_neg zc84).symm) | fail) (by first | (rfl) | fail)
      · skip
        have hlt37 := ct_go hi_i zc45
        refine j_aload_n hx d_Mo_brightest_48 rfl 0 rfl ?_
        refine j_aload_n hx d_Mo_brightest_49 rfl 0 rfl ?_
        refine j_get hx ck_Mo 33 (by decide) t_1451 (by decide) (sh_111 _ _) rfl d_Mo_brightest_50 ?_
        refine j_iload hx d_Mo_brightest_53 4 rfl ?_
        refine j_iload hx d_Mo_brightest_55 4 rfl ?_
        refine j_callVi hx (c_Mo_seenBy hG ia_122 (up σ 111 0 0) (nI i) (nI i) (by exact hw) (by exact hr)) mo_Mo_seenBy mv_Mo_seenBy t_1731 (by decide) rfl (by decide) (sh_111 _ _) rfl rfl (Nat.le_of_ble_eq_true rfl) d_Mo_brightest_57 ?_
        refine j_istore hx [(5, .int (msb (up σ 111 0 0) 122 (nI i) (nI i))), (0, .ref (G.1 111)), (1, .int w), (2, .int ((mbr (up σ 111 0 0) i).1)), (3, .int ((mbr (up σ 111 0 0) i).2)), (4, .int (nI i))] d_Mo_brightest_60 (by decide) rfl ?_
        refine j_iload hx d_Mo_brightest_62 0 rfl ?_
        refine j_iload_n hx d_Mo_brightest_64 rfl 4 rfl ?_
        refine j_icmp_gt (tgt := 71) hx d_Mo_brightest_65 (by decide) (fun zc65 => ?_) (fun zc65 => ?_)
        · skip
          refine j_iload hx d_Mo_brightest_71 5 rfl ?_
          refine j_istore_n hx [(2, .int (nI i)), (5, .int (msb (up σ 111 0 0) 122 (nI i) (nI i))), (0, .ref (G.1 111)), (1, .int w), (3, .int ((mbr (up σ 111 0 0) i).2)), (4, .int (nI i))] d_Mo_brightest_73 rfl (by decide) rfl ?_
          refine j_iload hx d_Mo_brightest_74 1 rfl ?_
          refine j_istore_n hx [(3, .int (msb (up σ 111 0 0) 122 (nI i) (nI i))), (2, .int (nI i)), (5, .int (msb (up σ 111 0 0) 122 (nI i) (nI i))), (0, .ref (G.1 111)), (1, .int w), (4, .int (nI i))] d_Mo_brightest_76 rfl (by decide) rfl ?_
          refine j_iinc hx [(4, .int ((nI i) + 1)), (3, .int (msb (up σ 111 0 0) 122 (nI i) (nI i))), (2, .int (nI i)), (5, .int (msb (up σ 111 0 0) 122 (nI i) (nI i))), (0, .ref (G.1 111)), (1, .int w)] d_Mo_brightest_77 5 rfl rfl (by decide) rfl ?_
          refine j_goto (tgt := 37) hx d_Mo_brightest_80 (by decide) ?_
          refine J.lsub (ls' := [(0, .ref (G.1 111)), (1, .int w), (2, .int (nI i)), (3, .int (msb (up σ 111 0 0) 122 (nI i) (nI i))), (4, .int ((nI i) + 1))]) [4, 5, 2, 1, 0] rfl ?_
          refine J.to ?_ ?_ (ih37 _ ?_ (i + 1) hlt37 rfl)
          · first | (first | rfl | (simp [zc45, zc65]; done)) | fail
          · first | (simp only [nI_s]; first | (rw [mbr_2 (i_lle (x := (mbr (up σ 111 0 0) i).2) zc65)]; done) | (rw [mbr_1 (i_nlt zc65)]; done)) | fail
          · first | (omega) | fail
        · skip
          refine j_goto (tgt := 77) hx d_Mo_brightest_68 (by decide) ?_
          refine j_iinc hx [(4, .int ((nI i) + 1)), (5, .int (msb (up σ 111 0 0) 122 (nI i) (nI i))), (0, .ref (G.1 111)), (1, .int w), (2, .int ((mbr (up σ 111 0 0) i).1)), (3, .int ((mbr (up σ 111 0 0) i).2))] d_Mo_brightest_77 5 rfl rfl (by decide) rfl ?_
          refine j_goto (tgt := 37) hx d_Mo_brightest_80 (by decide) ?_
          refine J.lsub (ls' := [(0, .ref (G.1 111)), (1, .int w), (2, .int ((mbr (up σ 111 0 0) i).1)), (3, .int ((mbr (up σ 111 0 0) i).2)), (4, .int ((nI i) + 1))]) [2, 3, 4, 5, 0] rfl ?_
          refine J.to ?_ ?_ (ih37 _ ?_ (i + 1) hlt37 rfl)
          · first | (first | rfl | (simp [zc45, zc65]; done)) | fail
          · first | (simp only [nI_s]; first | (rw [mbr_2 (i_lle (x := (mbr (up σ 111 0 0) i).2) zc65)]; done) | (rw [mbr_1 (i_nlt zc65)]; done)) | fail
          · first | (omega) | fail
  refine J.lsub (ls' := [(0, .ref (G.1 111)), (1, .int w), (2, .int ((-1))), (3, .int ((-1))), (4, .int 0)]) [3, 4, 2, 1, 0] rfl ?_
  refine J.to ?_ ?_ (hl37 _ 0 (Nat.zero_le _) rfl)
  · first | (first | rfl | (simp []; done)) | fail
  · first | (rfl) | fail

set_option maxRecDepth 20000 in
set_option maxHeartbeats 4000000 in
theorem c_Mo_brightestI {l : Launch} {G : Gz} (hG : zI G) (σ : St) (w : Int32) (hbad : ¬ (0 ≤ w ∧ w ≤ 1)) : MI l G y_Mo_brightest prog_14_method_97_code 6 .int 4 [.ref (G.1 111), .int w] σ 0 (mrf σ 1 1) := by
  refine MI.of hG (by decide) (Nat.le_of_ble_eq_true rfl) (fun X hx hq => ?_)
  show J l G X 6 σ 0 [(0, .ref (G.1 111)), (1, .int w)] []
  refine j_aload_n hx d_Mo_brightest_0 rfl 0 rfl ?_
  refine j_iconst (v := 0) hx d_Mo_brightest_1 (by decide) ?_
  refine j_put hx ck_Mo 0 (by decide) t_1418 (by decide) (sh_111 _ _) rfl (Nat.le_of_ble_eq_true rfl) (sh_111 _ _) d_Mo_brightest_2 ?_
  refine j_aload_n hx d_Mo_brightest_5 rfl 0 rfl ?_
  refine j_iload_n hx d_Mo_brightest_6 rfl 1 rfl ?_
  refine j_iconst (v := 0) hx d_Mo_brightest_7 (by decide) ?_
  refine j_iconst (v := 1) hx d_Mo_brightest_8 (by decide) ?_
  refine j_callSi hx (c_Mo_in0 hG (up σ 111 0 0) w 0 1 (by exact hbad)) mo_Mo_in t_1582 t_1581 (by decide) rfl rfl (Nat.le_of_ble_eq_true rfl) d_Mo_brightest_9 ?_
  refine j_if_ne (tgt := 19) hx d_Mo_brightest_12 (by decide) (fun zc12 => absurd rfl zc12) (fun _ => ?_)
  refine j_iconst (v := 1) hx d_Mo_brightest_15 (by decide) ?_
  refine j_goto (tgt := 20) hx d_Mo_brightest_16 (by decide) ?_
  refine j_iconst (v := 1) hx d_Mo_brightest_20 (by decide) ?_
  refine j_iconst (v := 1) hx d_Mo_brightest_21 (by decide) ?_
  refine j_callVi hx (c_Mo_bad1 hG (up σ 111 0 0) 1 1 1 (by decide) (by exact up_rd) (by decide) (by decide)) mo_Mo_bad mv_Mo_bad t_1584 (by decide) rfl (by decide) (sh_111 _ _) rfl rfl (Nat.le_of_ble_eq_true rfl) d_Mo_brightest_22 ?_
  refine j_if_eq (tgt := 30) hx d_Mo_brightest_25 (by decide) (fun zc25 => absurd zc25 (by decide)) (fun _ => ?_)
  refine j_iconst (v := 0) hx d_Mo_brightest_28 (by decide) ?_
  exact j_iret hx hq rfl d_Mo_brightest_29 (by first | (rfl) | fail) (by first | (rfl) | fail)

set_option maxRecDepth 20000 in
set_option maxHeartbeats 4000000 in
theorem c_Mo_wrecks {l : Launch} {G : Gz} (hG : zI G) (σ : St) (ships : Int32) (w : Int32) (hw : mW (up σ 111 0 0)) (hr : rW (up σ 111 0 0) 122) (hv18 : 0 ≤ ships ∧ ships ≤ ((1 <<< ((up σ 111 0 0) 115 3 &&& 31)) - 1)) (hv27 : 0 ≤ w ∧ w ≤ 2) : MI l G y_Mo_wrecks prog_14_method_98_code 7 .int 9 [.ref (G.1 111), .int ships, .int w] σ (mwS (up σ 111 0 0) ships w) ((mwr (up σ 111 0 0) ships (ct ((up σ 111 0 0) 115 3))).2) := by
  refine MI.of hG (by decide) (Nat.le_of_ble_eq_true rfl) (fun X hx hq => ?_)
  show J l G X 7 σ 0 [(0, .ref (G.1 111)), (1, .int ships), (2, .int w)] []
  have hb1 : ct ((up σ 111 0 0) 115 1) ≤ 6 := hw.1.2.1
  have hb2 : ct ((up σ 111 0 0) 115 2) ≤ 3 := hw.1.2.2.1
  have hb0 : ct ((up σ 111 0 0) 115 0) ≤ 12 := hw.1.1
  have hb3 : ct ((up σ 111 0 0) 115 3) ≤ 6 := hw.1.2.2.2.1
  have hb4 : ct ((up σ 111 0 0) 115 4) ≤ 6 := hw.1.2.2.2.2
  refine j_aload_n hx d_Mo_wrecks_0 rfl 0 rfl ?_
  refine j_iconst (v := 0) hx d_Mo_wrecks_1 (by decide) ?_
  refine j_put hx ck_Mo 0 (by decide) t_1418 (by decide) (sh_111 _ _) rfl (Nat.le_of_ble_eq_true rfl) (sh_111 _ _) d_Mo_wrecks_2 ?_
  refine j_aload_n hx d_Mo_wrecks_5 rfl 0 rfl ?_
  refine j_iload_n hx d_Mo_wrecks_6 rfl 1 rfl ?_
  refine j_iconst (v := 0) hx d_Mo_wrecks_7 (by decide) ?_
  refine j_iconst (v := 1) hx d_Mo_wrecks_8 (by decide) ?_
  refine j_aload_n hx d_Mo_wrecks_9 rfl 0 rfl ?_
  refine j_get hx ck_Mo 12 (by decide) t_1430 (by decide) (sh_111 _ _) rfl d_Mo_wrecks_10 ?_
  refine j_iconst (v := 3) hx d_Mo_wrecks_13 (by decide) ?_
  have hz14_1 : zin (3) 6 3 := by first | exact ⟨rfl, by decide⟩ | exact zin_nI (by omega) (by decide) | exact zin_of (by omega) (by omega)
  refine j_ialdk hx ia_115 hz14_1 d_Mo_wrecks_14 ?_
  refine j_ishl hx d_Mo_wrecks_15 ?_
  refine j_iconst (v := 1) hx d_Mo_wrecks_16 (by decide) ?_
  refine j_isub hx d_Mo_wrecks_17 ?_
  refine j_callSi hx (c_Mo_in1 hG (up σ 111 0 0) ships 0 ((1 <<< (((up σ 111 0 0) 115 3) &&& 31)) - 1) (by exact hv18)) mo_Mo_in t_1582 t_1581 (by decide) rfl rfl (Nat.le_of_ble_eq_true rfl) d_Mo_wrecks_18 ?_
  refine j_if_eq (tgt := 33) hx d_Mo_wrecks_21 (by decide) (fun zc21 => absurd zc21 (by decide)) (fun _ => ?_)
  refine j_iload_n hx d_Mo_wrecks_24 rfl 2 rfl ?_
  refine j_iconst (v := 0) hx d_Mo_wrecks_25 (by decide) ?_
  refine j_iconst (v := 2) hx d_Mo_wrecks_26 (by decide) ?_
  refine j_callSi hx (c_Mo_in1 hG (up σ 111 0 0) w 0 2 (by exact hv27)) mo_Mo_in t_1582 t_1581 (by decide) rfl rfl (Nat.le_of_ble_eq_true rfl) d_Mo_wrecks_27 ?_
  refine j_if_ne (tgt := 37) hx d_Mo_wrecks_30 (by decide) (fun _ => ?_) (fun zc30 => absurd zc30 (by decide))
  refine j_iconst (v := 0) hx d_Mo_wrecks_37 (by decide) ?_
  refine j_iconst (v := 1) hx d_Mo_wrecks_38 (by decide) ?_
  refine j_iconst (v := 1) hx d_Mo_wrecks_39 (by decide) ?_
  refine j_callVi hx (c_Mo_bad0 hG (up σ 111 0 0) 0 1 1 (by rfl) (by exact up_rd)) mo_Mo_bad mv_Mo_bad t_1584 (by decide) rfl (by decide) (sh_111 _ _) rfl rfl (Nat.le_of_ble_eq_true rfl) d_Mo_wrecks_40 ?_
  refine j_if_eq (tgt := 48) hx d_Mo_wrecks_43 (by decide) (fun _ => ?_) (fun zc43 => absurd (by decide) zc43)
  refine j_iconst (v := 0) hx d_Mo_wrecks_48 (by decide) ?_
  refine j_istore_n hx [(3, .int 0), (0, .ref (G.1 111)), (1, .int ships), (2, .int w)] d_Mo_wrecks_49 rfl (by decide) rfl ?_
  refine j_iconst (v := 0) hx d_Mo_wrecks_50 (by decide) ?_
  refine j_istore hx [(4, .int 0), (3, .int 0), (0, .ref (G.1 111)), (1, .int ships), (2, .int w)] d_Mo_wrecks_51 (by decide) rfl ?_
  refine j_iconst (v := 0) hx d_Mo_wrecks_53 (by decide) ?_
  refine j_istore hx [(5, .int 0), (4, .int 0), (3, .int 0), (0, .ref (G.1 111)), (1, .int ships), (2, .int w)] d_Mo_wrecks_54 (by decide) rfl ?_
  refine j_iconst (v := 0) hx d_Mo_wrecks_56 (by decide) ?_
  refine j_istore hx [(6, .int 0), (5, .int 0), (4, .int 0), (3, .int 0), (0, .ref (G.1 111)), (1, .int ships), (2, .int w)] d_Mo_wrecks_57 (by decide) rfl ?_
  have hl59 : ∀ (N9 : Nat) (i : Nat), (i ≤ (ct ((up σ 111 0 0) 115 3))) → (ct ((up σ 111 0 0) 115 3)) - i = N9 → J l G X 7 ((mwr (up σ 111 0 0) ships i).2) 59 [(0, .ref (G.1 111)), (1, .int ships), (2, .int w), (3, .int ((mwr (up σ 111 0 0) ships i).1.1)), (4, .int ((mwr (up σ 111 0 0) ships i).1.2.1)), (5, .int ((mwr (up σ 111 0 0) ships i).1.2.2)), (6, .int (nI i))] [] := by
    intro N9
    induction N9 using Nat.strongRecOn with
    | _ N9 ih59 =>
      intro i hi_i hm59
      have hq9 : sq (up σ 111 0 0) (mwr (up σ 111 0 0) ships i).2 := sq.rf.wr
      refine j_iload hx d_Mo_wrecks_59 6 rfl ?_
      refine j_aload_n hx d_Mo_wrecks_61 rfl 0 rfl ?_
      refine j_get hx ck_Mo 12 (by decide) t_1430 (by decide) (sh_111 _ _) rfl d_Mo_wrecks_62 ?_
      refine j_iconst (v := 3) hx d_Mo_wrecks_65 (by decide) ?_
      have hz66_2 : zin (3) 6 3 := by first | exact ⟨rfl, by decide⟩ | exact zin_nI (by omega) (by decide) | exact zin_of (by omega) (by omega)
      refine j_ialdk hx ia_115 hz66_2 d_Mo_wrecks_66 ?_
      refine j_icmp_ge (tgt := 137) hx d_Mo_wrecks_67 (by decide) (fun zc67 => ?_) (fun zc67 => ?_)
      · skip
        obtain rfl := ct_end' hi_i (by have q9 := zc67; rw [hq9.o (by decide) (by decide) (by decide)] at q9; exact q9)
        refine j_iload_n hx d_Mo_wrecks_137 rfl 2 rfl ?_
        refine j_if_ne (tgt := 145) hx d_Mo_wrecks_138 (by decide) (fun zc138 => ?_) (fun zc138 => ?_)
        · skip
          refine j_iload_n hx d_Mo_wrecks_145 rfl 2 rfl ?_
          refine j_iconst (v := 1) hx d_Mo_wrecks_146 (by decide) ?_
          refine j_icmp_ne (tgt := 155) hx d_Mo_wrecks_147 (by decide) (fun zc147 => ?_) (fun zc147 => ?_)
          · skip
            refine j_iload hx d_Mo_wrecks_155 5 rfl ?_
            exact j_iret hx hq rfl d_Mo_wrecks_157 (by first | (unfold mwS; first | exact (if_pos zc138).symm | (rw [if_neg zc138]; first | exact (if_pos zc147).symm | exact (if_neg zc147).symm)) | fail) (by first | (rfl) | fail)
          · skip
            refine j_iload hx d_Mo_wrecks_150 4 rfl ?_
            refine j_goto (tgt := 157) hx d_Mo_wrecks_152 (by decide) ?_
            exact j_iret hx hq rfl d_Mo_wrecks_157 (by first | (unfold mwS; first | exact (if_pos zc138).symm | (rw [if_neg zc138]; first | exact (if_pos zc147).symm | exact (if_neg zc147).symm)) | fail) (by first | (rfl) | fail)
        · skip
          refine j_iload_n hx d_Mo_wrecks_141 rfl 3 rfl ?_
          refine j_goto (tgt := 157) hx d_Mo_wrecks_142 (by decide) ?_
          exact j_iret hx hq rfl d_Mo_wrecks_157 (by first | (unfold mwS; first | exact (if_pos zc138).symm | (rw [if_neg zc138]; first | exact (if_pos zc147).symm | exact (if_neg zc147).symm)) | fail) (by first | (rfl) | fail)
      · skip
        have hlt59 := ct_go hi_i (by have q9 := zc67; rw [hq9.o (by decide) (by decide) (by decide)] at q9; exact q9)
        refine j_iload_n hx d_Mo_wrecks_70 rfl 1 rfl ?_
        refine j_iload hx d_Mo_wrecks_71 6 rfl ?_
        refine j_callSi hx (c_Mo_has hG ((mwr (up σ 111 0 0) ships i).2) ships (nI i)) mo_Mo_has t_1721 t_1720 (by decide) rfl rfl (Nat.le_of_ble_eq_true rfl) d_Mo_wrecks_73 ?_
        refine j_if_ne (tgt := 82) hx d_Mo_wrecks_76 (by decide) (fun zc76 => ?_) (fun zc76 => ?_)
        · skip
          refine j_aload_n hx d_Mo_wrecks_82 rfl 0 rfl ?_
          refine j_aload_n hx d_Mo_wrecks_83 rfl 0 rfl ?_
          refine j_get hx ck_Mo 33 (by decide) t_1451 (by decide) (sh_111 _ _) rfl d_Mo_wrecks_84 ?_
          refine j_iload hx d_Mo_wrecks_87 6 rfl ?_
          refine j_callVv hx (c_Mo_tries hG ia_122 ((mwr (up σ 111 0 0) ships i).2) i (by omega) (by exact hq9.w hw) (by exact hq9.r (by decide) (by decide) (by decide) hr) (by decide) (by decide) (by decide)) mo_Mo_tries mv_Mo_tries t_1727 (by decide) rfl (by decide) (sh_111 _ _) rfl rfl (Nat.le_of_ble_eq_true rfl) d_Mo_wrecks_89 ?_
          refine j_aload_n hx d_Mo_wrecks_92 rfl 0 rfl ?_
          refine j_get hx ck_Mo 42 (by decide) t_1460 (by decide) (sh_111 _ _) rfl d_Mo_wrecks_93 ?_
          refine j_iconst (v := (-1)) hx d_Mo_wrecks_96 (by decide) ?_
          refine j_icmp_ne (tgt := 103) hx d_Mo_wrecks_97 (by decide) (fun zc97 => ?_) (fun zc97 => ?_)
          · skip
            refine j_iinc hx [(3, .int (((mwr (up σ 111 0 0) ships i).1.1) + 1)), (0, .ref (G.1 111)), (1, .int ships), (2, .int w), (4, .int ((mwr (up σ 111 0 0) ships i).1.2.1)), (5, .int ((mwr (up σ 111 0 0) ships i).1.2.2)), (6, .int (nI i))] d_Mo_wrecks_103 3 rfl rfl (by decide) rfl ?_
            refine j_iload hx d_Mo_wrecks_106 4 rfl ?_
            refine j_aload_n hx d_Mo_wrecks_108 rfl 1 rfl ?_
            refine j_get hx ck_Mo 22 (by decide) t_1440 (by decide) (sh_111 _ _) rfl d_Mo_wrecks_109 ?_
            refine j_iload hx d_Mo_wrecks_112 6 rfl ?_
            have hz114_3 : zin (nI i) 6 i := by first | exact ⟨rfl, by decide⟩ | exact zin_nI (by omega) (by decide) | exact zin_of (by omega) (by omega)
            refine j_aaldk hx ias_ship.1.1 (ias_ship.2.1 _ _) hz114_3 d_Mo_wrecks_114 ?_
            refine j_iconst (v := 0) hx d_Mo_wrecks_115 (by decide) ?_
            have hz116_4 : zin (0) 4 0 := by first | exact ⟨rfl, by decide⟩ | exact zin_nI (by omega) (by decide) | exact zin_of (by omega) (by omega)
            refine j_ialdk hx (ias_ship.2.2 _ hz114_3.2) hz116_4 d_Mo_wrecks_116 ?_
            refine j_iadd hx d_Mo_wrecks_117 ?_
            refine j_istore hx [(4, .int (((mwr (up σ 111 0 0) ships i).1.2.1) + ((trF ((mwr (up σ 111 0 0) ships i).2) 122 i) (161 + i) 0))), (3, .int (((mwr (up σ 111 0 0) ships i).1.1) + 1)), (0, .ref (G.1 111)), (1, .int ships), (2, .int w), (5, .int ((mwr (up σ 111 0 0) ships i).1.2.2)), (6, .int (nI i))] d_Mo_wrecks_118 (by decide) rfl ?_
            refine j_iload hx d_Mo_wrecks_120 5 rfl ?_
            refine j_aload_n hx d_Mo_wrecks_122 rfl 2 rfl ?_
            refine j_iload hx d_Mo_wrecks_123 6 rfl ?_
            refine j_callVi hx (c_Mo_aliveOf hG (trF ((mwr (up σ 111 0 0) ships i).2) 122 i) i (by omega) (by exact trF_sa (by have := (hq9.w hw).1.1; exact this))) mo_Mo_aliveOf mv_Mo_aliveOf t_1770 (by decide) rfl (by decide) (sh_111 _ _) rfl rfl (Nat.le_of_ble_eq_true rfl) d_Mo_wrecks_125 ?_
            refine j_iadd hx d_Mo_wrecks_128 ?_
            refine j_istore hx [(5, .int (((mwr (up σ 111 0 0) ships i).1.2.2) + (mal (trF ((mwr (up σ 111 0 0) ships i).2) 122 i) i))), (4, .int (((mwr (up σ 111 0 0) ships i).1.2.1) + ((trF ((mwr (up σ 111 0 0) ships i).2) 122 i) (161 + i) 0))), (3, .int (((mwr (up σ 111 0 0) ships i).1.1) + 1)), (0, .ref (G.1 111)), (1, .int ships), (2, .int w), (6, .int (nI i))] d_Mo_wrecks_129 (by decide) rfl ?_
            refine j_iinc hx [(6, .int ((nI i) + 1)), (5, .int (((mwr (up σ 111 0 0) ships i).1.2.2) + (mal (trF ((mwr (up σ 111 0 0) ships i).2) 122 i) i))), (4, .int (((mwr (up σ 111 0 0) ships i).1.2.1) + ((trF ((mwr (up σ 111 0 0) ships i).2) 122 i) (161 + i) 0))), (3, .int (((mwr (up σ 111 0 0) ships i).1.1) + 1)), (0, .ref (G.1 111)), (1, .int ships), (2, .int w)] d_Mo_wrecks_131 6 rfl rfl (by decide) rfl ?_
            refine j_goto (tgt := 59) hx d_Mo_wrecks_134 (by decide) ?_
            refine J.lsub (ls' := [(0, .ref (G.1 111)), (1, .int ships), (2, .int w), (3, .int (((mwr (up σ 111 0 0) ships i).1.1) + 1)), (4, .int (((mwr (up σ 111 0 0) ships i).1.2.1) + ((trF ((mwr (up σ 111 0 0) ships i).2) 122 i) (161 + i) 0))), (5, .int (((mwr (up σ 111 0 0) ships i).1.2.2) + (mal (trF ((mwr (up σ 111 0 0) ships i).2) 122 i) i))), (6, .int ((nI i) + 1))]) [4, 5, 6, 3, 2, 1, 0] rfl ?_
            refine J.to ?_ ?_ (ih59 _ ?_ (i + 1) hlt59 rfl)
            · first | (first | (rw [mwr_1 zc76]; done) | (rw [mwr_2 zc76 zc97]; done) | (rw [mwr_3 zc76 zc97]; done)) | fail
            · first | (simp only [nI_s]; first | (rw [mwr_1 zc76]; done) | (rw [mwr_2 zc76 zc97]; done) | (rw [mwr_3 zc76 zc97]; done)) | fail
            · first | (omega) | fail
          · skip
            refine j_goto (tgt := 131) hx d_Mo_wrecks_100 (by decide) ?_
            refine j_iinc hx [(6, .int ((nI i) + 1)), (0, .ref (G.1 111)), (1, .int ships), (2, .int w), (3, .int ((mwr (up σ 111 0 0) ships i).1.1)), (4, .int ((mwr (up σ 111 0 0) ships i).1.2.1)), (5, .int ((mwr (up σ 111 0 0) ships i).1.2.2))] d_Mo_wrecks_131 6 rfl rfl (by decide) rfl ?_
            refine j_goto (tgt := 59) hx d_Mo_wrecks_134 (by decide) ?_
            refine J.lsub (ls' := [(0, .ref (G.1 111)), (1, .int ships), (2, .int w), (3, .int ((mwr (up σ 111 0 0) ships i).1.1)), (4, .int ((mwr (up σ 111 0 0) ships i).1.2.1)), (5, .int ((mwr (up σ 111 0 0) ships i).1.2.2)), (6, .int ((nI i) + 1))]) [1, 2, 3, 4, 5, 6, 0] rfl ?_
            refine J.to ?_ ?_ (ih59 _ ?_ (i + 1) hlt59 rfl)
            · first | (first | (rw [mwr_1 zc76]; done) | (rw [mwr_2 zc76 zc97]; done) | (rw [mwr_3 zc76 zc97]; done)) | fail
            · first | (simp only [nI_s]; first | (rw [mwr_1 zc76]; done) | (rw [mwr_2 zc76 zc97]; done) | (rw [mwr_3 zc76 zc97]; done)) | fail
            · first | (omega) | fail
        · skip
          refine j_goto (tgt := 131) hx d_Mo_wrecks_79 (by decide) ?_
          refine j_iinc hx [(6, .int ((nI i) + 1)), (0, .ref (G.1 111)), (1, .int ships), (2, .int w), (3, .int ((mwr (up σ 111 0 0) ships i).1.1)), (4, .int ((mwr (up σ 111 0 0) ships i).1.2.1)), (5, .int ((mwr (up σ 111 0 0) ships i).1.2.2))] d_Mo_wrecks_131 6 rfl rfl (by decide) rfl ?_
          refine j_goto (tgt := 59) hx d_Mo_wrecks_134 (by decide) ?_
          refine J.lsub (ls' := [(0, .ref (G.1 111)), (1, .int ships), (2, .int w), (3, .int ((mwr (up σ 111 0 0) ships i).1.1)), (4, .int ((mwr (up σ 111 0 0) ships i).1.2.1)), (5, .int ((mwr (up σ 111 0 0) ships i).1.2.2)), (6, .int ((nI i) + 1))]) [1, 2, 3, 4, 5, 6, 0] rfl ?_
          refine J.to ?_ ?_ (ih59 _ ?_ (i + 1) hlt59 rfl)
          · first | (first | (rw [mwr_1 zc76]; done) | (rw [mwr_2 zc76 zc97]; done) | (rw [mwr_3 zc76 zc97]; done)) | fail
          · first | (simp only [nI_s]; first | (rw [mwr_1 zc76]; done) | (rw [mwr_2 zc76 zc97]; done) | (rw [mwr_3 zc76 zc97]; done)) | fail
          · first | (omega) | fail
  refine J.lsub (ls' := [(0, .ref (G.1 111)), (1, .int ships), (2, .int w), (3, .int 0), (4, .int 0), (5, .int 0), (6, .int 0)]) [4, 5, 6, 3, 2, 1, 0] rfl ?_
  refine J.to ?_ ?_ (hl59 _ 0 (Nat.zero_le _) rfl)
  · first | (rfl) | fail
  · first | (rfl) | fail

set_option maxRecDepth 20000 in
set_option maxHeartbeats 4000000 in
theorem c_Mo_wrecksI {l : Launch} {G : Gz} (hG : zI G) (σ : St) (ships : Int32) (w : Int32) (hbad : ¬ ((0 ≤ ships ∧ ships ≤ ((1 <<< ((up σ 111 0 0) 115 3 &&& 31)) - 1)) ∧ (0 ≤ w ∧ w ≤ 2))) : MI l G y_Mo_wrecks prog_14_method_98_code 7 .int 4 [.ref (G.1 111), .int ships, .int w] σ 0 (mrf σ 1 1) := by
  refine MI.of hG (by decide) (Nat.le_of_ble_eq_true rfl) (fun X hx hq => ?_)
  show J l G X 7 σ 0 [(0, .ref (G.1 111)), (1, .int ships), (2, .int w)] []
  refine j_aload_n hx d_Mo_wrecks_0 rfl 0 rfl ?_
  refine j_iconst (v := 0) hx d_Mo_wrecks_1 (by decide) ?_
  refine j_put hx ck_Mo 0 (by decide) t_1418 (by decide) (sh_111 _ _) rfl (Nat.le_of_ble_eq_true rfl) (sh_111 _ _) d_Mo_wrecks_2 ?_
  refine j_aload_n hx d_Mo_wrecks_5 rfl 0 rfl ?_
  refine j_iload_n hx d_Mo_wrecks_6 rfl 1 rfl ?_
  refine j_iconst (v := 0) hx d_Mo_wrecks_7 (by decide) ?_
  refine j_iconst (v := 1) hx d_Mo_wrecks_8 (by decide) ?_
  refine j_aload_n hx d_Mo_wrecks_9 rfl 0 rfl ?_
  refine j_get hx ck_Mo 12 (by decide) t_1430 (by decide) (sh_111 _ _) rfl d_Mo_wrecks_10 ?_
  refine j_iconst (v := 3) hx d_Mo_wrecks_13 (by decide) ?_
  have hz14_1 : zin (3) 6 3 := by first | exact ⟨rfl, by decide⟩ | exact zin_nI (by omega) (by decide) | exact zin_of (by omega) (by omega)
  refine j_ialdk hx ia_115 hz14_1 d_Mo_wrecks_14 ?_
  refine j_ishl hx d_Mo_wrecks_15 ?_
  refine j_iconst (v := 1) hx d_Mo_wrecks_16 (by decide) ?_
  refine j_isub hx d_Mo_wrecks_17 ?_
  by_cases hn18 : 0 ≤ ships ∧ ships ≤ ((1 <<< (((up σ 111 0 0) 115 3) &&& 31)) - 1)
  · skip
    refine j_callSi hx (c_Mo_in1 hG (up σ 111 0 0) ships 0 ((1 <<< (((up σ 111 0 0) 115 3) &&& 31)) - 1) (by exact hn18)) mo_Mo_in t_1582 t_1581 (by decide) rfl rfl (Nat.le_of_ble_eq_true rfl) d_Mo_wrecks_18 ?_
    refine j_if_eq (tgt := 33) hx d_Mo_wrecks_21 (by decide) (fun zc21 => absurd zc21 (by decide)) (fun _ => ?_)
    refine j_iload_n hx d_Mo_wrecks_24 rfl 2 rfl ?_
    refine j_iconst (v := 0) hx d_Mo_wrecks_25 (by decide) ?_
    refine j_iconst (v := 2) hx d_Mo_wrecks_26 (by decide) ?_
    by_cases hn27 : 0 ≤ w ∧ w ≤ 2
    · skip
      exact absurd ⟨hn18, hn27⟩ hbad
    refine j_callSi hx (c_Mo_in0 hG (up σ 111 0 0) w 0 2 (by exact hn27)) mo_Mo_in t_1582 t_1581 (by decide) rfl rfl (Nat.le_of_ble_eq_true rfl) d_Mo_wrecks_27 ?_
    refine j_if_ne (tgt := 37) hx d_Mo_wrecks_30 (by decide) (fun zc30 => absurd rfl zc30) (fun _ => ?_)
    refine j_iconst (v := 1) hx d_Mo_wrecks_33 (by decide) ?_
    refine j_goto (tgt := 38) hx d_Mo_wrecks_34 (by decide) ?_
    refine j_iconst (v := 1) hx d_Mo_wrecks_38 (by decide) ?_
    refine j_iconst (v := 1) hx d_Mo_wrecks_39 (by decide) ?_
    refine j_callVi hx (c_Mo_bad1 hG (up σ 111 0 0) 1 1 1 (by decide) (by exact up_rd) (by decide) (by decide)) mo_Mo_bad mv_Mo_bad t_1584 (by decide) rfl (by decide) (sh_111 _ _) rfl rfl (Nat.le_of_ble_eq_true rfl) d_Mo_wrecks_40 ?_
    refine j_if_eq (tgt := 48) hx d_Mo_wrecks_43 (by decide) (fun zc43 => absurd zc43 (by decide)) (fun _ => ?_)
    refine j_iconst (v := 0) hx d_Mo_wrecks_46 (by decide) ?_
    exact j_iret hx hq rfl d_Mo_wrecks_47 (by first | (rfl) | fail) (by first | (rfl) | fail)
  refine j_callSi hx (c_Mo_in0 hG (up σ 111 0 0) ships 0 ((1 <<< (((up σ 111 0 0) 115 3) &&& 31)) - 1) (by exact hn18)) mo_Mo_in t_1582 t_1581 (by decide) rfl rfl (Nat.le_of_ble_eq_true rfl) d_Mo_wrecks_18 ?_
  refine j_if_eq (tgt := 33) hx d_Mo_wrecks_21 (by decide) (fun _ => ?_) (fun zc21 => absurd (by decide) zc21)
  refine j_iconst (v := 1) hx d_Mo_wrecks_33 (by decide) ?_
  refine j_goto (tgt := 38) hx d_Mo_wrecks_34 (by decide) ?_
  refine j_iconst (v := 1) hx d_Mo_wrecks_38 (by decide) ?_
  refine j_iconst (v := 1) hx d_Mo_wrecks_39 (by decide) ?_
  refine j_callVi hx (c_Mo_bad1 hG (up σ 111 0 0) 1 1 1 (by decide) (by exact up_rd) (by decide) (by decide)) mo_Mo_bad mv_Mo_bad t_1584 (by decide) rfl (by decide) (sh_111 _ _) rfl rfl (Nat.le_of_ble_eq_true rfl) d_Mo_wrecks_40 ?_
  refine j_if_eq (tgt := 48) hx d_Mo_wrecks_43 (by decide) (fun zc43 => absurd zc43 (by decide)) (fun _ => ?_)
  refine j_iconst (v := 0) hx d_Mo_wrecks_46 (by decide) ?_
  exact j_iret hx hq rfl d_Mo_wrecks_47 (by first | (rfl) | fail) (by first | (rfl) | fail)

set_option maxRecDepth 20000 in
set_option maxHeartbeats 4000000 in
theorem c_Mo_reefs {l : Launch} {G : Gz} (hG : zI G) (σ : St) (w : Int32) (hw : mW (up σ 111 0 0)) (hv9 : 0 ≤ w ∧ w ≤ 2) : MI l G y_Mo_reefs prog_14_method_99_code 7 .int 9 [.ref (G.1 111), .int w] σ (mrs (up σ 111 0 0) w) (t0 σ) := by
  refine MI.of hG (by decide) (Nat.le_of_ble_eq_true rfl) (fun X hx hq => ?_)
  show J l G X 7 σ 0 [(0, .ref (G.1 111)), (1, .int w)] []
  have hb1 : ct ((up σ 111 0 0) 115 1) ≤ 6 := hw.1.2.1
  have hb2 : ct ((up σ 111 0 0) 115 2) ≤ 3 := hw.1.2.2.1
  have hb0 : ct ((up σ 111 0 0) 115 0) ≤ 12 := hw.1.1
  have hb3 : ct ((up σ 111 0 0) 115 3) ≤ 6 := hw.1.2.2.2.1
  have hb4 : ct ((up σ 111 0 0) 115 4) ≤ 6 := hw.1.2.2.2.2
  refine j_aload_n hx d_Mo_reefs_0 rfl 0 rfl ?_
  refine j_iconst (v := 0) hx d_Mo_reefs_1 (by decide) ?_
  refine j_put hx ck_Mo 0 (by decide) t_1418 (by decide) (sh_111 _ _) rfl (Nat.le_of_ble_eq_true rfl) (sh_111 _ _) d_Mo_reefs_2 ?_
  refine j_aload_n hx d_Mo_reefs_5 rfl 0 rfl ?_
  refine j_iload_n hx d_Mo_reefs_6 rfl 1 rfl ?_
  refine j_iconst (v := 0) hx d_Mo_reefs_7 (by decide) ?_
  refine j_iconst (v := 2) hx d_Mo_reefs_8 (by decide) ?_
  refine j_callSi hx (c_Mo_in1 hG (up σ 111 0 0) w 0 2 (by exact hv9)) mo_Mo_in t_1582 t_1581 (by decide) rfl rfl (Nat.le_of_ble_eq_true rfl) d_Mo_reefs_9 ?_
  refine j_if_ne (tgt := 19) hx d_Mo_reefs_12 (by decide) (fun _ => ?_) (fun zc12 => absurd zc12 (by decide))
  refine j_iconst (v := 0) hx d_Mo_reefs_19 (by decide) ?_
  refine j_iconst (v := 1) hx d_Mo_reefs_20 (by decide) ?_
  refine j_iconst (v := 1) hx d_Mo_reefs_21 (by decide) ?_
  refine j_callVi hx (c_Mo_bad0 hG (up σ 111 0 0) 0 1 1 (by rfl) (by exact up_rd)) mo_Mo_bad mv_Mo_bad t_1584 (by decide) rfl (by decide) (sh_111 _ _) rfl rfl (Nat.le_of_ble_eq_true rfl) d_Mo_reefs_22 ?_
  refine j_if_eq (tgt := 30) hx d_Mo_reefs_25 (by decide) (fun _ => ?_) (fun zc25 => absurd (by decide) zc25)
  refine j_iconst (v := 0) hx d_Mo_reefs_30 (by decide) ?_
  refine j_istore_n hx [(2, .int 0), (0, .ref (G.1 111)), (1, .int w)] d_Mo_reefs_31 rfl (by decide) rfl ?_
  refine j_iconst (v := (-1)) hx d_Mo_reefs_32 (by decide) ?_
  refine j_istore_n hx [(3, .int ((-1))), (2, .int 0), (0, .ref (G.1 111)), (1, .int w)] d_Mo_reefs_33 rfl (by decide) rfl ?_
  refine j_iconst (v := 0) hx d_Mo_reefs_34 (by decide) ?_
  refine j_istore hx [(4, .int 0), (3, .int ((-1))), (2, .int 0), (0, .ref (G.1 111)), (1, .int w)] d_Mo_reefs_35 (by decide) rfl ?_
  refine j_iconst (v := 0) hx d_Mo_reefs_37 (by decide) ?_
  refine j_istore hx [(5, .int 0), (4, .int 0), (3, .int ((-1))), (2, .int 0), (0, .ref (G.1 111)), (1, .int w)] d_Mo_reefs_38 (by decide) rfl ?_
  refine j_iconst (v := 0) hx d_Mo_reefs_40 (by decide) ?_
  refine j_istore hx [(6, .int 0), (5, .int 0), (4, .int 0), (3, .int ((-1))), (2, .int 0), (0, .ref (G.1 111)), (1, .int w)] d_Mo_reefs_41 (by decide) rfl ?_
  have hl43 : ∀ (N9 : Nat) (i : Nat), (i ≤ (ct ((up σ 111 0 0) 115 0))) → (ct ((up σ 111 0 0) 115 0)) - i = N9 → J l G X 7 (up σ 111 0 0) 43 [(0, .ref (G.1 111)), (1, .int w), (2, .int ((mre (up σ 111 0 0) i).1)), (3, .int ((mre (up σ 111 0 0) i).2.1)), (4, .int ((mre (up σ 111 0 0) i).2.2.1)), (5, .int ((mre (up σ 111 0 0) i).2.2.2)), (6, .int (nI i))] [] := by
    intro N9
    induction N9 using Nat.strongRecOn with
    | _ N9 ih43 =>
      intro i hi_i hm43
      refine j_iload hx d_Mo_reefs_43 6 rfl ?_
      refine j_aload_n hx d_Mo_reefs_45 rfl 0 rfl ?_
      refine j_get hx ck_Mo 12 (by decide) t_1430 (by decide) (sh_111 _ _) rfl d_Mo_reefs_46 ?_
      refine j_iconst (v := 0) hx d_Mo_reefs_49 (by decide) ?_
      have hz50_1 : zin (0) 6 0 := by first | exact ⟨rfl, by decide⟩ | exact zin_nI (by omega) (by decide) | exact zin_of (by omega) (by omega)
      refine j_ialdk hx ia_115 hz50_1 d_Mo_reefs_50 ?_
      refine j_icmp_ge (tgt := 112) hx d_Mo_reefs_51 (by decide) (fun zc51 => ?_) (fun zc51 => ?_)
      · skip
        obtain rfl := ct_end' hi_i zc51
        refine j_iload_n hx d_Mo_reefs_112 rfl 1 rfl ?_
        refine j_if_ne (tgt := 120) hx d_Mo_reefs_113 (by decide) (fun zc113 => ?_) (fun zc113 => ?_)
        · skip
          refine j_iload_n hx d_Mo_reefs_120 rfl 1 rfl ?_
          refine j_iconst (v := 1) hx d_Mo_reefs_121 (by decide) ?_
          refine j_icmp_ne (tgt := 129) hx d_Mo_reefs_122 (by decide) (fun zc122 => ?_) (fun zc122 => ?_)
          · skip
            refine j_iload hx d_Mo_reefs_129 5 rfl ?_
            exact j_iret hx hq rfl d_Mo_reefs_131 (by first | (unfold mrs; first | exact (if_pos zc113).symm | (rw [if_neg zc113]; first | exact (if_pos zc122).symm | exact (if_neg zc122).symm)) | fail) (by first | (rfl) | fail)
          · skip
            refine j_iload_n hx d_Mo_reefs_125 rfl 3 rfl ?_
            refine j_goto (tgt := 131) hx d_Mo_reefs_126 (by decide) ?_
            exact j_iret hx hq rfl d_Mo_reefs_131 (by first | (unfold mrs; first | exact (if_pos zc113).symm | (rw [if_neg zc113]; first | exact (if_pos zc122).symm | exact (if_neg zc122).symm)) | fail) (by first | (rfl) | fail)
        · skip
          refine j_iload_n hx d_Mo_reefs_116 rfl 2 rfl ?_
          refine j_goto (tgt := 131) hx d_Mo_reefs_117 (by decide) ?_
          exact j_iret hx hq rfl d_Mo_reefs_131 (by first | (unfold mrs; first | exact (if_pos zc113).symm | (rw [if_neg zc113]; first | exact (if_pos zc122).symm | exact (if_neg zc122).symm)) | fail) (by first | (rfl) | fail)
      · skip
        have hlt43 := ct_go hi_i zc51
        refine j_iload hx d_Mo_reefs_54 5 rfl ?_
        refine j_aload_n hx d_Mo_reefs_56 rfl 0 rfl ?_
        refine j_get hx ck_Mo 14 (by decide) t_1432 (by decide) (sh_111 _ _) rfl d_Mo_reefs_57 ?_
        refine j_iload hx d_Mo_reefs_60 6 rfl ?_
        have hz62_2 : zin (nI i) 12 i := by first | exact ⟨rfl, by decide⟩ | exact zin_nI (by omega) (by decide) | exact zin_of (by omega) (by omega)
        refine j_ialdk hx ia_117 hz62_2 d_Mo_reefs_62 ?_
        refine j_iadd hx d_Mo_reefs_63 ?_
        refine j_istore hx [(5, .int (((mre (up σ 111 0 0) i).2.2.2) + ((up σ 111 0 0) 117 i))), (0, .ref (G.1 111)), (1, .int w), (2, .int ((mre (up σ 111 0 0) i).1)), (3, .int ((mre (up σ 111 0 0) i).2.1)), (4, .int ((mre (up σ 111 0 0) i).2.2.1)), (6, .int (nI i))] d_Mo_reefs_64 (by decide) rfl ?_
        refine j_aload_n hx d_Mo_reefs_66 rfl 1 rfl ?_
        refine j_get hx ck_Mo 14 (by decide) t_1432 (by decide) (sh_111 _ _) rfl d_Mo_reefs_67 ?_
        refine j_iload hx d_Mo_reefs_70 6 rfl ?_
        have hz72_3 : zin (nI i) 12 i := by first | exact ⟨rfl, by decide⟩ | exact zin_nI (by omega) (by decide) | exact zin_of (by omega) (by omega)
        refine j_ialdk hx ia_117 hz72_3 d_Mo_reefs_72 ?_
        refine j_if_le (tgt := 83) hx d_Mo_reefs_73 (by decide) (fun zc73 => ?_) (fun zc73 => ?_)
        · skip
          refine j_iconst (v := 0) hx d_Mo_reefs_83 (by decide) ?_
          refine j_istore hx [(4, .int 0), (5, .int (((mre (up σ 111 0 0) i).2.2.2) + ((up σ 111 0 0) 117 i))), (0, .ref (G.1 111)), (1, .int w), (2, .int ((mre (up σ 111 0 0) i).1)), (3, .int ((mre (up σ 111 0 0) i).2.1)), (6, .int (nI i))] d_Mo_reefs_84 (by decide) rfl ?_
          refine j_iload hx d_Mo_reefs_86 0 rfl ?_
          refine j_iload_n hx d_Mo_reefs_88 rfl 4 rfl ?_
          refine j_icmp_gt (tgt := 95) hx d_Mo_reefs_89 (by decide) (fun zc89 => ?_) (fun zc89 => ?_)
          · skip
            refine j_iload hx d_Mo_reefs_95 0 rfl ?_
            refine j_istore_n hx [(2, .int 0), (4, .int 0), (5, .int (((mre (up σ 111 0 0) i).2.2.2) + ((up σ 111 0 0) 117 i))), (0, .ref (G.1 111)), (1, .int w), (3, .int ((mre (up σ 111 0 0) i).2.1)), (6, .int (nI i))] d_Mo_reefs_97 rfl (by decide) rfl ?_
            refine j_iload hx d_Mo_reefs_98 6 rfl ?_
            refine j_iload hx d_Mo_reefs_100 1 rfl ?_
            refine j_isub hx d_Mo_reefs_102 ?_
            refine j_iconst (v := 1) hx d_Mo_reefs_103 (by decide) ?_
            refine j_iadd hx d_Mo_reefs_104 ?_
            refine j_istore_n hx [(3, .int (((nI i) - 0) + 1)), (2, .int 0), (4, .int 0), (5, .int (((mre (up σ 111 0 0) i).2.2.2) + ((up σ 111 0 0) 117 i))), (0, .ref (G.1 111)), (1, .int w), (6, .int (nI i))] d_Mo_reefs_105 rfl (by decide) rfl ?_
            refine j_iinc hx [(6, .int ((nI i) + 1)), (3, .int (((nI i) - 0) + 1)), (2, .int 0), (4, .int 0), (5, .int (((mre (up σ 111 0 0) i).2.2.2) + ((up σ 111 0 0) 117 i))), (0, .ref (G.1 111)), (1, .int w)] d_Mo_reefs_106 6 rfl rfl (by decide) rfl ?_
            refine j_goto (tgt := 43) hx d_Mo_reefs_109 (by decide) ?_
            refine J.lsub (ls' := [(0, .ref (G.1 111)), (1, .int w), (2, .int 0), (3, .int (((nI i) - 0) + 1)), (4, .int 0), (5, .int (((mre (up σ 111 0 0) i).2.2.2) + ((up σ 111 0 0) 117 i))), (6, .int ((nI i) + 1))]) [5, 6, 2, 1, 3, 4, 0] rfl ?_
            refine J.to ?_ ?_ (ih43 _ ?_ (i + 1) hlt43 rfl)
            · first | (first | rfl | (simp [zc51, zc73, zc89]; done)) | fail
            · first | (simp only [nI_s]; first | (rw [mre_1 zc73 (i_nlt zc89)]; done) | (rw [mre_2 zc73 (i_lle zc89)]; done) | (rw [mre_3 zc73 (i_nlt zc89)]; done) | (rw [mre_4 zc73 (i_lle zc89)]; done)) | fail
            · first | (omega) | fail
          · skip
            refine j_goto (tgt := 106) hx d_Mo_reefs_92 (by decide) ?_
            refine j_iinc hx [(6, .int ((nI i) + 1)), (4, .int 0), (5, .int (((mre (up σ 111 0 0) i).2.2.2) + ((up σ 111 0 0) 117 i))), (0, .ref (G.1 111)), (1, .int w), (2, .int ((mre (up σ 111 0 0) i).1)), (3, .int ((mre (up σ 111 0 0) i).2.1))] d_Mo_reefs_106 6 rfl rfl (by decide) rfl ?_
            refine j_goto (tgt := 43) hx d_Mo_reefs_109 (by decide) ?_
            refine J.lsub (ls' := [(0, .ref (G.1 111)), (1, .int w), (2, .int ((mre (up σ 111 0 0) i).1)), (3, .int ((mre (up σ 111 0 0) i).2.1)), (4, .int 0), (5, .int (((mre (up σ 111 0 0) i).2.2.2) + ((up σ 111 0 0) 117 i))), (6, .int ((nI i) + 1))]) [3, 4, 5, 6, 1, 2, 0] rfl ?_
            refine J.to ?_ ?_ (ih43 _ ?_ (i + 1) hlt43 rfl)
            · first | (first | rfl | (simp [zc51, zc73, zc89]; done)) | fail
            · first | (simp only [nI_s]; first | (rw [mre_1 zc73 (i_nlt zc89)]; done) | (rw [mre_2 zc73 (i_lle zc89)]; done) | (rw [mre_3 zc73 (i_nlt zc89)]; done) | (rw [mre_4 zc73 (i_lle zc89)]; done)) | fail
            · first | (omega) | fail
        · skip
          refine j_iload hx d_Mo_reefs_76 5 rfl ?_
          refine j_iconst (v := 1) hx d_Mo_reefs_78 (by decide) ?_
          refine j_iadd hx d_Mo_reefs_79 ?_
          refine j_goto (tgt := 84) hx d_Mo_reefs_80 (by decide) ?_
          refine j_istore hx [(4, .int (((mre (up σ 111 0 0) i).2.2.1) + 1)), (5, .int (((mre (up σ 111 0 0) i).2.2.2) + ((up σ 111 0 0) 117 i))), (0, .ref (G.1 111)), (1, .int w), (2, .int ((mre (up σ 111 0 0) i).1)), (3, .int ((mre (up σ 111 0 0) i).2.1)), (6, .int (nI i))] d_Mo_reefs_84 (by decide) rfl ?_
          refine j_iload hx d_Mo_reefs_86 0 rfl ?_
          refine j_iload_n hx d_Mo_reefs_88 rfl 4 rfl ?_
          refine j_icmp_gt (tgt := 95) hx d_Mo_reefs_89 (by decide) (fun zc89 => ?_) (fun zc89 => ?_)
          · skip
            refine j_iload hx d_Mo_reefs_95 0 rfl ?_
            refine j_istore_n hx [(2, .int (((mre (up σ 111 0 0) i).2.2.1) + 1)), (4, .int (((mre (up σ 111 0 0) i).2.2.1) + 1)), (5, .int (((mre (up σ 111 0 0) i).2.2.2) + ((up σ 111 0 0) 117 i))), (0, .ref (G.1 111)), (1, .int w), (3, .int ((mre (up σ 111 0 0) i).2.1)), (6, .int (nI i))] d_Mo_reefs_97 rfl (by decide) rfl ?_
            refine j_iload hx d_Mo_reefs_98 6 rfl ?_
            refine j_iload hx d_Mo_reefs_100 1 rfl ?_
            refine j_isub hx d_Mo_reefs_102 ?_
            refine j_iconst (v := 1) hx d_Mo_reefs_103 (by decide) ?_
            refine j_iadd hx d_Mo_reefs_104 ?_
            refine j_istore_n hx [(3, .int (((nI i) - (((mre (up σ 111 0 0) i).2.2.1) + 1)) + 1)), (2, .int (((mre (up σ 111 0 0) i).2.2.1) + 1)), (4, .int (((mre (up σ 111 0 0) i).2.2.1) + 1)), (5, .int (((mre (up σ 111 0 0) i).2.2.2) + ((up σ 111 0 0) 117 i))), (0, .ref (G.1 111)), (1, .int w), (6, .int (nI i))] d_Mo_reefs_105 rfl (by decide) rfl ?_
            refine j_iinc hx [(6, .int ((nI i) + 1)), (3, .int (((nI i) - (((mre (up σ 111 0 0) i).2.2.1) + 1)) + 1)), (2, .int (((mre (up σ 111 0 0) i).2.2.1) + 1)), (4, .int (((mre (up σ 111 0 0) i).2.2.1) + 1)), (5, .int (((mre (up σ 111 0 0) i).2.2.2) + ((up σ 111 0 0) 117 i))), (0, .ref (G.1 111)), (1, .int w)] d_Mo_reefs_106 6 rfl rfl (by decide) rfl ?_
            refine j_goto (tgt := 43) hx d_Mo_reefs_109 (by decide) ?_
            refine J.lsub (ls' := [(0, .ref (G.1 111)), (1, .int w), (2, .int (((mre (up σ 111 0 0) i).2.2.1) + 1)), (3, .int (((nI i) - (((mre (up σ 111 0 0) i).2.2.1) + 1)) + 1)), (4, .int (((mre (up σ 111 0 0) i).2.2.1) + 1)), (5, .int (((mre (up σ 111 0 0) i).2.2.2) + ((up σ 111 0 0) 117 i))), (6, .int ((nI i) + 1))]) [5, 6, 2, 1, 3, 4, 0] rfl ?_
            refine J.to ?_ ?_ (ih43 _ ?_ (i + 1) hlt43 rfl)
            · first | (first | rfl | (simp [zc51, zc73, zc89]; done)) | fail
            · first | (simp only [nI_s]; first | (rw [mre_1 zc73 (i_nlt zc89)]; done) | (rw [mre_2 zc73 (i_lle zc89)]; done) | (rw [mre_3 zc73 (i_nlt zc89)]; done) | (rw [mre_4 zc73 (i_lle zc89)]; done)) | fail
            · first | (omega) | fail
          · skip
            refine j_goto (tgt := 106) hx d_Mo_reefs_92 (by decide) ?_
            refine j_iinc hx [(6, .int ((nI i) + 1)), (4, .int (((mre (up σ 111 0 0) i).2.2.1) + 1)), (5, .int (((mre (up σ 111 0 0) i).2.2.2) + ((up σ 111 0 0) 117 i))), (0, .ref (G.1 111)), (1, .int w), (2, .int ((mre (up σ 111 0 0) i).1)), (3, .int ((mre (up σ 111 0 0) i).2.1))] d_Mo_reefs_106 6 rfl rfl (by decide) rfl ?_
            refine j_goto (tgt := 43) hx d_Mo_reefs_109 (by decide) ?_
            refine J.lsub (ls' := [(0, .ref (G.1 111)), (1, .int w), (2, .int ((mre (up σ 111 0 0) i).1)), (3, .int ((mre (up σ 111 0 0) i).2.1)), (4, .int (((mre (up σ 111 0 0) i).2.2.1) + 1)), (5, .int (((mre (up σ 111 0 0) i).2.2.2) + ((up σ 111 0 0) 117 i))), (6, .int ((nI i) + 1))]) [3, 4, 5, 6, 1, 2, 0] rfl ?_
            refine J.to ?_ ?_ (ih43 _ ?_ (i + 1) hlt43 rfl)
            · first | (first | rfl | (simp [zc51, zc73, zc89]; done)) | fail
            · first | (simp only [nI_s]; first | (rw [mre_1 zc73 (i_nlt zc89)]; done) | (rw [mre_2 zc73 (i_lle zc89)]; done) | (rw [mre_3 zc73 (i_nlt zc89)]; done) | (rw [mre_4 zc73 (i_lle zc89)]; done)) | fail
            · first | (omega) | fail
  refine J.lsub (ls' := [(0, .ref (G.1 111)), (1, .int w), (2, .int 0), (3, .int ((-1))), (4, .int 0), (5, .int 0), (6, .int 0)]) [5, 6, 4, 3, 2, 1, 0] rfl ?_
  refine J.to ?_ ?_ (hl43 _ 0 (Nat.zero_le _) rfl)
  · first | (first | rfl | (simp []; done)) | fail
  · first | (rfl) | fail

set_option maxRecDepth 20000 in
set_option maxHeartbeats 4000000 in
theorem c_Mo_reefsI {l : Launch} {G : Gz} (hG : zI G) (σ : St) (w : Int32) (hbad : ¬ (0 ≤ w ∧ w ≤ 2)) : MI l G y_Mo_reefs prog_14_method_99_code 7 .int 4 [.ref (G.1 111), .int w] σ 0 (mrf σ 1 1) := by
  refine MI.of hG (by decide) (Nat.le_of_ble_eq_true rfl) (fun X hx hq => ?_)
  show J l G X 7 σ 0 [(0, .ref (G.1 111)), (1, .int w)] []
  refine j_aload_n hx d_Mo_reefs_0 rfl 0 rfl ?_
  refine j_iconst (v := 0) hx d_Mo_reefs_1 (by decide) ?_
  refine j_put hx ck_Mo 0 (by decide) t_1418 (by decide) (sh_111 _ _) rfl (Nat.le_of_ble_eq_true rfl) (sh_111 _ _) d_Mo_reefs_2 ?_
  refine j_aload_n hx d_Mo_reefs_5 rfl 0 rfl ?_
  refine j_iload_n hx d_Mo_reefs_6 rfl 1 rfl ?_
  refine j_iconst (v := 0) hx d_Mo_reefs_7 (by decide) ?_
  refine j_iconst (v := 2) hx d_Mo_reefs_8 (by decide) ?_
  refine j_callSi hx (c_Mo_in0 hG (up σ 111 0 0) w 0 2 (by exact hbad)) mo_Mo_in t_1582 t_1581 (by decide) rfl rfl (Nat.le_of_ble_eq_true rfl) d_Mo_reefs_9 ?_
  refine j_if_ne (tgt := 19) hx d_Mo_reefs_12 (by decide) (fun zc12 => absurd rfl zc12) (fun _ => ?_)
  refine j_iconst (v := 1) hx d_Mo_reefs_15 (by decide) ?_
  refine j_goto (tgt := 20) hx d_Mo_reefs_16 (by decide) ?_
  refine j_iconst (v := 1) hx d_Mo_reefs_20 (by decide) ?_
  refine j_iconst (v := 1) hx d_Mo_reefs_21 (by decide) ?_
  refine j_callVi hx (c_Mo_bad1 hG (up σ 111 0 0) 1 1 1 (by decide) (by exact up_rd) (by decide) (by decide)) mo_Mo_bad mv_Mo_bad t_1584 (by decide) rfl (by decide) (sh_111 _ _) rfl rfl (Nat.le_of_ble_eq_true rfl) d_Mo_reefs_22 ?_
  refine j_if_eq (tgt := 30) hx d_Mo_reefs_25 (by decide) (fun zc25 => absurd zc25 (by decide)) (fun _ => ?_)
  refine j_iconst (v := 0) hx d_Mo_reefs_28 (by decide) ?_
  exact j_iret hx hq rfl d_Mo_reefs_29 (by first | (rfl) | fail) (by first | (rfl) | fail)

set_option maxRecDepth 20000 in
set_option maxHeartbeats 4000000 in
theorem c_Mo_fault {l : Launch} {G : Gz} (hG : zI G) (σ : St) : MI l G y_Mo_fault prog_14_method_45_code 1 .int 1 [.ref (G.1 111)] σ ((up σ 111 0 0) 111 3) (t0 σ) := by
  refine MI.of hG (by decide) (Nat.le_of_ble_eq_true rfl) (fun X hx hq => ?_)
  show J l G X 1 σ 0 [(0, .ref (G.1 111))] []
  refine j_aload_n hx d_Mo_fault_0 rfl 0 rfl ?_
  refine j_iconst (v := 0) hx d_Mo_fault_1 (by decide) ?_
  refine j_put hx ck_Mo 0 (by decide) t_1418 (by decide) (sh_111 _ _) rfl (Nat.le_of_ble_eq_true rfl) (sh_111 _ _) d_Mo_fault_2 ?_
  refine j_aload_n hx d_Mo_fault_5 rfl 0 rfl ?_
  refine j_get hx ck_Mo 3 (by decide) t_1421 (by decide) (sh_111 _ _) rfl d_Mo_fault_6 ?_
  exact j_iret hx hq rfl d_Mo_fault_9 (by first | (rfl) | fail) (by first | (rfl) | fail)

set_option maxRecDepth 20000 in
set_option maxHeartbeats 4000000 in
theorem c_Mo_status {l : Launch} {G : Gz} (hG : zI G) (σ : St) (w : Int32) : MI l G y_Mo_status prog_14_method_109_code 2 .int 2 [.ref (G.1 111), .int w] σ (if 0 ≤ w ∧ w ≤ 1 then (up σ 111 0 0) 113 w.toInt.toNat else -1) (t0 σ) := by
  refine MI.of hG (by decide) (Nat.le_of_ble_eq_true rfl) (fun X hx hq => ?_)
  show J l G X 2 σ 0 [(0, .ref (G.1 111)), (1, .int w)] []
  refine j_aload_n hx d_Mo_status_0 rfl 0 rfl ?_
  refine j_iconst (v := 0) hx d_Mo_status_1 (by decide) ?_
  refine j_put hx ck_Mo 0 (by decide) t_1418 (by decide) (sh_111 _ _) rfl (Nat.le_of_ble_eq_true rfl) (sh_111 _ _) d_Mo_status_2 ?_
  refine j_iload_n hx d_Mo_status_5 rfl 1 rfl ?_
  refine j_iconst (v := 0) hx d_Mo_status_6 (by decide) ?_
  refine j_iconst (v := 1) hx d_Mo_status_7 (by decide) ?_
  refine j_callSi hx (c_Mo_in hG (up σ 111 0 0) w 0 1) mo_Mo_in t_1582 t_1581 (by decide) rfl rfl (Nat.le_of_ble_eq_true rfl) d_Mo_status_8 ?_
  refine j_if_eq (tgt := 23) hx d_Mo_status_11 (by decide) (fun zc11 => ?_) (fun zc11 => ?_)
  · skip
    refine j_iconst (v := (-1)) hx d_Mo_status_23 (by decide) ?_
    exact j_iret hx hq rfl d_Mo_status_24 (by first | (first | exact (if_pos (b2_nz zc11)).symm | exact (if_neg (b2_z zc11)).symm) | fail) (by first | (rfl) | fail)
  · skip
    refine j_aload_n hx d_Mo_status_14 rfl 0 rfl ?_
    refine j_get hx ck_Mo 10 (by decide) t_1428 (by decide) (sh_111 _ _) rfl d_Mo_status_15 ?_
    refine j_iload_n hx d_Mo_status_18 rfl 1 rfl ?_
    have hz19_1 : zin (w) 2 w.toInt.toNat := by exact z01 (b2_nz zc11)
    refine j_ialdk hx ia_113 hz19_1 d_Mo_status_19 ?_
    refine j_goto (tgt := 24) hx d_Mo_status_20 (by decide) ?_
    exact j_iret hx hq rfl d_Mo_status_24 (by first | (first | exact (if_pos (b2_nz zc11)).symm | exact (if_neg (b2_z zc11)).symm) | fail) (by first | (rfl) | fail)

set_option maxRecDepth 20000 in
set_option maxHeartbeats 4000000 in
theorem c_Mo_count {l : Launch} {G : Gz} (hG : zI G) (σ : St) (w : Int32) : MI l G y_Mo_count prog_14_method_110_code 2 .int 1 [.ref (G.1 111), .int w] σ (if w = 0 then (up σ 111 0 0) 111 40 else if w = 1 then (up σ 111 0 0) 111 1 else if w = 2 then (up σ 111 0 0) 111 38 else -1) (t0 σ) := by
  refine MI.of hG (by decide) (Nat.le_of_ble_eq_true rfl) (fun X hx hq => ?_)
  show J l G X 2 σ 0 [(0, .ref (G.1 111)), (1, .int w)] []
  refine j_aload_n hx d_Mo_count_0 rfl 0 rfl ?_
  refine j_iconst (v := 0) hx d_Mo_count_1 (by decide) ?_
  refine j_put hx ck_Mo 0 (by decide) t_1418 (by decide) (sh_111 _ _) rfl (Nat.le_of_ble_eq_true rfl) (sh_111 _ _) d_Mo_count_2 ?_
  refine j_iload_n hx d_Mo_count_5 rfl 1 rfl ?_
  refine j_if_ne (tgt := 16) hx d_Mo_count_6 (by decide) (fun zc6 => ?_) (fun zc6 => ?_)
  · skip
    refine j_iload_n hx d_Mo_count_16 rfl 1 rfl ?_
    refine j_iconst (v := 1) hx d_Mo_count_17 (by decide) ?_
    refine j_icmp_ne (tgt := 28) hx d_Mo_count_18 (by decide) (fun zc18 => ?_) (fun zc18 => ?_)
    · skip
      refine j_iload_n hx d_Mo_count_28 rfl 1 rfl ?_
      refine j_iconst (v := 2) hx d_Mo_count_29 (by decide) ?_
      refine j_icmp_ne (tgt := 40) hx d_Mo_count_30 (by decide) (fun zc30 => ?_) (fun zc30 => ?_)
      · skip
        refine j_iconst (v := (-1)) hx d_Mo_count_40 (by decide) ?_
        exact j_iret hx hq rfl d_Mo_count_41 (by first | (first | exact (if_pos zc6).symm | (rw [if_neg zc6]; first | exact (if_pos zc18).symm | (rw [if_neg zc18]; first | exact (if_pos zc30).symm | exact (if_neg zc30).symm))) | fail) (by first | (rfl) | fail)
      · skip
        refine j_aload_n hx d_Mo_count_33 rfl 0 rfl ?_
        refine j_get hx ck_Mo 38 (by decide) t_1456 (by decide) (sh_111 _ _) rfl d_Mo_count_34 ?_
        refine j_goto (tgt := 41) hx d_Mo_count_37 (by decide) ?_
        exact j_iret hx hq rfl d_Mo_count_41 (by first | (first | exact (if_pos zc6).symm | (rw [if_neg zc6]; first | exact (if_pos zc18).symm | (rw [if_neg zc18]; first | exact (if_pos zc30).symm | exact (if_neg zc30).symm))) | fail) (by first | (rfl) | fail)
    · skip
      refine j_aload_n hx d_Mo_count_21 rfl 0 rfl ?_
      refine j_get hx ck_Mo 1 (by decide) t_1419 (by decide) (sh_111 _ _) rfl d_Mo_count_22 ?_
      refine j_goto (tgt := 41) hx d_Mo_count_25 (by decide) ?_
      exact j_iret hx hq rfl d_Mo_count_41 (by first | (first | exact (if_pos zc6).symm | (rw [if_neg zc6]; first | exact (if_pos zc18).symm | (rw [if_neg zc18]; first | exact (if_pos zc30).symm | exact (if_neg zc30).symm))) | fail) (by first | (rfl) | fail)
  · skip
    refine j_aload_n hx d_Mo_count_9 rfl 0 rfl ?_
    refine j_get hx ck_Mo 40 (by decide) t_1458 (by decide) (sh_111 _ _) rfl d_Mo_count_10 ?_
    refine j_goto (tgt := 41) hx d_Mo_count_13 (by decide) ?_
    exact j_iret hx hq rfl d_Mo_count_41 (by first | (first | exact (if_pos zc6).symm | (rw [if_neg zc6]; first | exact (if_pos zc18).symm | (rw [if_neg zc18]; first | exact (if_pos zc30).symm | exact (if_neg zc30).symm))) | fail) (by first | (rfl) | fail)

