/-! ===== the reference reads: size 2, place 3, at 4, fault 5, faultAt 6, clauses 7, open 8; the bytes in 112 ===== -/
def mbt (len : Int32) (f : Nat → Int32) (k : Int32) : Int32 := if len ≤ k then -1 else f k.toInt.toNat
/-- reading goes well: from 0 on, at most to the end, at most 600 -/
def pB (t : St) : Prop := 0 ≤ (t 111 4).toInt ∧ (t 111 4).toInt ≤ (t 111 2).toInt ∧ (t 111 2).toInt ≤ 600
theorem mbt_rg {len : Int32} {f : Nat → Int32} {k : Int32} (h0 : 0 ≤ k.toInt) (hl : len.toInt ≤ 600) (h : k < len) : mbt len f k = rg f 600 k := by
  rw [i_lt] at h
  unfold mbt rg
  rw [if_neg (by rw [i_le]; omega), if_pos (by omega)]
theorem mbt_e {len : Int32} {f : Nat → Int32} {k : Int32} (h : ¬ k < len) : mbt len f k = -1 := if_pos (i_nlt h)
theorem mbtB {len : Int32} {f : Nat → Int32} {k : Int32} (h0 : 0 ≤ k.toInt) (hl : len.toInt ≤ 600) : (mbt len f k = 32) ↔ (k < len ∧ isB f k = true) := by
  by_cases h : k < len
  · rw [mbt_rg h0 hl h]; exact ⟨fun z => ⟨h, isB_t z⟩, fun z => of_decide_eq_true z.2⟩
  · rw [mbt_e h]; exact ⟨fun z => absurd z (by decide), fun z => absurd z.1 h⟩
theorem mbtD {len : Int32} {f : Nat → Int32} {k : Int32} (h0 : 0 ≤ k.toInt) (hl : len.toInt ≤ 600) : (48 ≤ mbt len f k ∧ mbt len f k ≤ 57) ↔ (k < len ∧ isD f k = true) := by
  by_cases h : k < len
  · rw [mbt_rg h0 hl h]; exact ⟨fun z => ⟨h, decide_eq_true z⟩, fun z => of_decide_eq_true z.2⟩
  · rw [mbt_e h]; exact ⟨fun z => absurd z.1 (by decide), fun z => absurd z.1 h⟩
theorem mbtA {len : Int32} {f : Nat → Int32} {k : Int32} (h0 : 0 ≤ k.toInt) (hl : len.toInt ≤ 600) : (97 ≤ mbt len f k ∧ mbt len f k ≤ 122) ↔ (k < len ∧ isA f k = true) := by
  by_cases h : k < len
  · rw [mbt_rg h0 hl h]; exact ⟨fun z => ⟨h, decide_eq_true z⟩, fun z => of_decide_eq_true z.2⟩
  · rw [mbt_e h]; exact ⟨fun z => absurd z.1 (by decide), fun z => absurd z.1 h⟩
/-- a run from a on -/
theorem rn_run {len : Int32} {P : Int32 → Bool} : ∀ (n : Nat) (a : Int32), (len.toInt - a.toInt).toNat = n → a.toInt ≤ len.toInt → ∃ L : Nat, (rn len P a).toInt = a.toInt + L ∧ (rn len P a).toInt ≤ len.toInt ∧ (∀ i : Nat, i < L → a + nI i < len ∧ P (a + nI i) = true) ∧ ¬ (rn len P a < len ∧ P (rn len P a) = true) := by
  intro n
  induction n with
  | zero =>
    intro a hn ha
    have h : ¬ (a < len ∧ P a = true) := fun z => by have := z.1; rw [i_lt] at this; omega
    rw [rn_stop h]
    exact ⟨0, by omega, ha, fun i hi => absurd hi (Nat.not_lt_zero i), h⟩
  | succ n ih =>
    intro a hn ha
    by_cases h : a < len ∧ P a = true
    · have h1 := i_s1 h.1
      have h2 := h.1; rw [i_lt] at h2
      obtain ⟨L, q1, q2, q3, q4⟩ := ih (a + 1) (by omega) (by omega)
      rw [rn_go h.1 h.2]
      refine ⟨L + 1, by omega, q2, fun i hi => ?_, q4⟩
      cases i with
      | zero => rw [show nI 0 = 0 from rfl, Int32.add_zero]; exact h
      | succ i => rw [← nI_s, Int32.add_comm (nI i) 1, ← Int32.add_assoc]; exact q3 i (by omega)
    · rw [rn_stop h]
      exact ⟨0, by omega, ha, fun i hi => absurd hi (Nat.not_lt_zero i), h⟩
def wlen (len : Int32) (f : Nat → Int32) (a : Int32) : Nat := ((rn len (isA f) a).toInt - a.toInt).toNat
theorem wlen_is {len : Int32} {f : Nat → Int32} {a : Int32} (h0 : 0 ≤ a.toInt) (h1 : a.toInt ≤ len.toInt) (hl : len.toInt ≤ 600) {i : Nat} (hi : i ≤ wlen len f a) : (97 ≤ mbt len f (a + nI i) ∧ mbt len f (a + nI i) ≤ 122) ↔ i < wlen len f a := by
  obtain ⟨L, q1, q2, q3, q4⟩ := rn_run (P := isA f) _ a rfl h1
  have hL : wlen len f a = L := by unfold wlen; omega
  rw [hL] at hi ⊢
  have e : (a + nI i).toInt = a.toInt + i := i_add rfl (i_nI (by omega)) (by omega) (by omega)
  rw [mbtA (by omega) hl]
  constructor
  · intro z
    rcases Nat.lt_or_ge i L with h | h
    · exact h
    · have : a + nI i = rn len (isA f) a := by rw [i_eq, e, q1]; omega
      rw [this] at z
      exact absurd z q4
  · intro z; exact q3 i z
theorem wlen_le {len : Int32} {f : Nat → Int32} {a : Int32} (h1 : a.toInt ≤ len.toInt) : a.toInt + wlen len f a ≤ len.toInt := by
  obtain ⟨L, q1, q2, q3, q4⟩ := rn_run (P := isA f) _ a rfl h1
  unfold wlen; omega
def mbl (t : St) : St := up t 111 4 (rn (t 111 2) (isB (t 112)) (t 111 4))
def wr (t : St) (k p : Int32) : St := if t 111 5 = 0 then up (up t 111 5 k) 111 6 p else t
def mgG (len : Int32) (f : Nat → Int32) (v p : Int32) : Int32 := if 100000 < 10 * v + mbt len f p - 48 then 100000 else 10 * v + mbt len f p - 48
def mn1 (t : St) : St := if b2 (48 ≤ mbt (mbl t 111 2) (mbl t 112) (mbl t 111 4) ∧ mbt (mbl t 111 2) (mbl t 112) (mbl t 111 4) ≤ 57) = 0 then wr (mbl t) 1 (mbl t 111 4) else mbl t
def mnv (t : St) : Int32 := rv (t 111 2) (isD (t 112)) (mgG (t 111 2) (t 112)) 0 (t 111 4)
def mn2 (t : St) : St := up (mn1 t) 111 4 (rn (mn1 t 111 2) (isD (mn1 t 112)) (mn1 t 111 4))
def mn3 (t : St) (lo hi : Int32) : St := if b2 (lo ≤ mnv (mn1 t) ∧ mnv (mn1 t) ≤ hi) = 0 then wr (mn2 t) 2 (mbl t 111 4) else mn2 t
def mnS (t : St) (lo hi : Int32) : St := if t 111 5 = 0 then mn3 t lo hi else t
def mnV (t : St) (lo hi : Int32) : Int32 := if t 111 5 = 0 then (if mn3 t lo hi 111 5 = 0 then mnv (mn1 t) else 0) else 0
def wrd (len : Int32) (f : Nat → Int32) (a : Int32) (n : Nat) : Int32 := it (fun k v => if k < 6 then 27 * v + mbt len f (a + nI k) - 97 + 1 else v) 0 n
theorem wrd_1 {len : Int32} {f : Nat → Int32} {a : Int32} {n : Nat} (h : n < 6) : wrd len f a (n + 1) = 27 * wrd len f a n + mbt len f (a + nI n) - 97 + 1 := if_pos h
theorem wrd_2 {len : Int32} {f : Nat → Int32} {a : Int32} {n : Nat} (h : ¬ n < 6) : wrd len f a (n + 1) = wrd len f a n := if_neg h
def mwv (t : St) : Int32 := if 6 < nI (wlen (t 111 2) (t 112) (t 111 4)) then -1 else wrd (t 111 2) (t 112) (t 111 4) (wlen (t 111 2) (t 112) (t 111 4))
def m6 (a b c d e f : Int32) : Int32 :=
  (fun v => if f = 0 then v else 27 * v + f) ((fun v => if e = 0 then v else 27 * v + e) ((fun v => if d = 0 then v else 27 * v + d) (27 * (27 * a + b) + c)))
def mbz (t : St) : St := if t 111 5 = 0 then mbl t else t
abbrev mIs (t : St) (c : Int32) : Prop := t 111 5 = 0 ∧ mwv (mbl t) = c
def msk (t : St) : St := up t 111 4 (rn (t 111 2) (isA (t 112)) (t 111 4))
def mtk (t : St) (c : Int32) : St := if b2 (mIs t c) = 0 then mbz t else msk (mbz t)
abbrev msP9 (t : St) (c : Int32) : Prop := mbt (mbl t 111 2) (mbl t 112) (mbl t 111 4) = c
def at1 (t : St) : St := up t 111 4 (t 111 4 + 1)
def msg (t : St) (c : Int32) : St := if t 111 5 = 0 then (if msP9 t c then at1 (mbl t) else wr (mbl t) 1 (mbl t 111 4)) else t
abbrev mtP (t : St) (c : Int32) : Prop := t 111 5 = 0 ∧ msP9 t c
def mts (t : St) (c : Int32) : St := if t 111 5 = 0 then (if msP9 t c then at1 (mbl t) else mbl t) else t
def mst (t : St) (n : Int32) : St := mbl (up (up (up (up (up (up (up t 111 1 0) 111 2 n) 111 4 0) 111 5 0) 111 6 (-1)) 111 7 0) 111 8 0)
theorem mbl_o {t : St} {o : Nat} (h : o ≠ 111) : mbl t o = t o := up_o h
theorem mbl_k {t : St} {k : Nat} (h : k ≠ 4) : mbl t 111 k = t 111 k := up_k h
theorem mbl_p {t : St} (h : pB t) : pB (mbl t) ∧ t 111 4 ≤ mbl t 111 4 := by
  obtain ⟨h0, h1, h2⟩ := h
  obtain ⟨L, q1, q2, -, -⟩ := rn_run (P := isB (t 112)) _ (t 111 4) rfl h1
  unfold pB mbl
  rw [up_rd, up_k (by decide)]
  exact ⟨⟨by omega, q2, h2⟩, by rw [i_le]; omega⟩
theorem mbl_i {t : St} : mbl (mbl t) = mbl t := by
  have e2 : mbl t 111 2 = t 111 2 := mbl_k (by decide)
  have e3 : mbl t 112 = t 112 := mbl_o (by decide)
  have e4 : mbl t 111 4 = rn (t 111 2) (isB (t 112)) (t 111 4) := up_rd
  have hs : rn (t 111 2) (isB (t 112)) (rn (t 111 2) (isB (t 112)) (t 111 4)) = rn (t 111 2) (isB (t 112)) (t 111 4) := by
    by_cases h : (t 111 4).toInt ≤ (t 111 2).toInt
    · obtain ⟨L, -, -, -, q4⟩ := rn_run (P := isB (t 112)) _ (t 111 4) rfl h
      exact rn_stop q4
    · have hz : ¬ (t 111 4 < t 111 2 ∧ isB (t 112) (t 111 4) = true) := fun z => by have := z.1; rw [i_lt] at this; omega
      rw [rn_stop hz, rn_stop hz]
  show up (mbl t) 111 4 (rn (mbl t 111 2) (isB (mbl t 112)) (mbl t 111 4)) = mbl t
  rw [e2, e3, e4, hs]
  unfold mbl; rw [up_up]
theorem mbz_i {t : St} : mbz (mbz t) = mbz t := by
  unfold mbz
  by_cases h : t 111 5 = 0
  · rw [if_pos h, mbl_k (by decide), if_pos h, mbl_i]
  · rw [if_neg h, if_neg h]
theorem mbz_5 {t : St} : mbz t 111 5 = t 111 5 := by
  unfold mbz; split
  · exact mbl_k (by decide)
  · rfl
theorem mIs_z {t : St} {c : Int32} : mIs (mbz t) c ↔ mIs t c := by
  unfold mIs
  rw [mbz_5]
  constructor
  · intro z
    have e : mbl (mbz t) = mbl t := by unfold mbz; rw [if_pos z.1, mbl_i]
    rw [e] at z; exact z
  · intro z
    have e : mbl (mbz t) = mbl t := by unfold mbz; rw [if_pos z.1, mbl_i]
    rw [e]; exact z
theorem mbz_p {t : St} (h : pB t) : pB (mbz t) := by
  unfold mbz; split
  · exact (mbl_p h).1
  · exact h
theorem wr_o {t : St} {k p : Int32} {o : Nat} (h : o ≠ 111) : wr t k p o = t o := by
  unfold wr; split
  · rw [up_o h, up_o h]
  · rfl
theorem wr_k {t : St} {k p : Int32} {f : Nat} (h : f ≠ 5) (h2 : f ≠ 6) : wr t k p 111 f = t 111 f := by
  unfold wr; split
  · rw [up_k h2, up_k h]
  · rfl
theorem wr_p {t : St} {k p : Int32} (h : pB t) : pB (wr t k p) := by unfold pB; rw [wr_k (by decide) (by decide), wr_k (by decide) (by decide)]; exact h
theorem mn1_o {t : St} {o : Nat} (h : o ≠ 111) : mn1 t o = t o := by
  unfold mn1; split
  · rw [wr_o h, mbl_o h]
  · exact mbl_o h
theorem mn1_k {t : St} {f : Nat} (h : f ≠ 5) (h2 : f ≠ 6) : mn1 t 111 f = mbl t 111 f := by
  unfold mn1; split
  · exact wr_k h h2
  · rfl
theorem mn1_p {t : St} (h : pB t) : pB (mn1 t) := by
  unfold mn1; split
  · exact wr_p (mbl_p h).1
  · exact (mbl_p h).1
theorem run_p {t : St} {P : Int32 → Bool} (h : pB t) : pB (up t 111 4 (rn (t 111 2) P (t 111 4))) ∧ (t 111 4).toInt ≤ (rn (t 111 2) P (t 111 4)).toInt := by
  obtain ⟨h0, h1, h2⟩ := h
  obtain ⟨L, q1, q2, -, -⟩ := rn_run (P := P) _ (t 111 4) rfl h1
  unfold pB
  rw [up_rd, up_k (by decide)]
  exact ⟨⟨by omega, q2, h2⟩, by omega⟩
theorem mn2_p {t : St} (h : pB t) : pB (mn2 t) := by unfold mn2; exact (run_p (mn1_p h)).1
theorem mnS_p {t : St} {lo hi : Int32} (h : pB t) : pB (mnS t lo hi) := by
  unfold mnS mn3; split
  · split
    · exact wr_p (mn2_p h)
    · exact mn2_p h
  · exact h
theorem msk_p {t : St} (h : pB t) : pB (msk t) := by unfold msk; exact (run_p h).1
theorem mtk_p {t : St} {c : Int32} (h : pB t) : pB (mtk t c) := by
  unfold mtk; split
  · exact mbz_p h
  · exact msk_p (mbz_p h)
theorem at1_p {t : St} {c : Int32} (h : pB t) (hc : mbt (t 111 2) (t 112) (t 111 4) = c) (h0 : 0 ≤ c) : pB (at1 t) ∧ (at1 t 111 4).toInt = (t 111 4).toInt + 1 := by
  obtain ⟨a, b, d⟩ := h
  have hlt : t 111 4 < t 111 2 := Decidable.not_not.mp (fun z => by rw [mbt_e z] at hc; rw [← hc] at h0; exact absurd h0 (by decide))
  have h2 := i_s1 hlt
  rw [i_lt] at hlt
  unfold pB at1
  rw [up_rd, up_k (by decide)]
  exact ⟨⟨by omega, by omega, d⟩, by omega⟩
theorem msg_p {t : St} {c : Int32} (h : pB t) (h0 : 0 ≤ c) : pB (msg t c) := by
  unfold msg; split
  · split
    · rename_i z; exact (at1_p (mbl_p h).1 z h0).1
    · exact wr_p (mbl_p h).1
  · exact h
theorem mts_p {t : St} {c : Int32} (h : pB t) (h0 : 0 ≤ c) : pB (mts t c) := by
  unfold mts; split
  · split
    · rename_i z; exact (at1_p (mbl_p h).1 z h0).1
    · exact (mbl_p h).1
  · exact h
theorem mst_p {t : St} {n : Int32} (h0 : 0 ≤ n.toInt) (h1 : n.toInt ≤ 600) : pB (mst t n) := by
  unfold mst
  apply (mbl_p _).1
  unfold pB
  rw [up_k (by decide), up_k (by decide), up_k (by decide), up_k (by decide), up_rd, up_k (by decide), up_k (by decide), up_k (by decide), up_k (by decide), up_k (by decide), up_rd]
  exact ⟨by decide, by exact h0, h1⟩
theorem pB_st {t : St} {n : Int32} (h0 : 0 ≤ n.toInt) (h1 : n.toInt ≤ 600) : pB (up (up (up (up (up (up (up t 111 1 0) 111 2 n) 111 4 0) 111 5 0) 111 6 (-1)) 111 7 0) 111 8 0) := by
  unfold pB
  rw [up_k (by decide), up_k (by decide), up_k (by decide), up_k (by decide), up_rd, up_k (by decide), up_k (by decide), up_k (by decide), up_k (by decide), up_k (by decide), up_rd]
  exact ⟨by decide, by exact h0, h1⟩

set_option maxRecDepth 20000 in
set_option maxHeartbeats 600000 in
theorem c_Mo_byteAt {l : Launch} {G : Gz} (hG : zI G) (σ : St) (k9 : Int32) (h0 : 0 ≤ k9.toInt) (hs : (σ 111 2).toInt ≤ 600) : MI l G y_Mo_byteAt prog_14_method_10_code 2 .int 1 [.ref (G.1 111), .int k9] σ (mbt (σ 111 2) (σ 112) k9) σ := by
  refine MI.of hG (by decide) (Nat.le_of_ble_eq_true rfl) (fun X hx hq => ?_)
  show J l G X 2 σ 0 [(0, .ref (G.1 111)), (1, .int k9)] []
  refine j_iload_n hx d_Mo_byteAt_0 rfl 1 rfl ?_
  refine j_aload_n hx d_Mo_byteAt_1 rfl 0 rfl ?_
  refine j_get hx ck_Mo 2 (by decide) t_1420 (by decide) (sh_111 _ _) rfl d_Mo_byteAt_2 ?_
  refine j_icmp_lt (tgt := 12) hx d_Mo_byteAt_5 (by decide) (fun zc5 => ?_) (fun zc5 => ?_)
  · skip
    refine j_aload_n hx d_Mo_byteAt_12 rfl 0 rfl ?_
    refine j_get hx ck_Mo 9 (by decide) t_1427 (by decide) (sh_111 _ _) rfl d_Mo_byteAt_13 ?_
    refine j_iload_n hx d_Mo_byteAt_16 rfl 1 rfl ?_
    have hz17_1 : zin (k9) 600 k9.toInt.toNat := by rw [i_lt] at zc5; exact zin_of h0 (by omega)
    refine j_ialdk hx ia_112 hz17_1 d_Mo_byteAt_17 ?_
    exact j_iret hx hq rfl d_Mo_byteAt_18 (by first | (unfold mbt; first | exact (if_pos (i_nlt zc5)).symm | exact (if_neg (i_lle zc5)).symm) | fail) (by first | (first | rfl | (simp only [zc5]; done) | (simp [zc5]; done)) | fail)
  · skip
    refine j_iconst (v := (-1)) hx d_Mo_byteAt_8 (by decide) ?_
    refine j_goto (tgt := 18) hx d_Mo_byteAt_9 (by decide) ?_
    exact j_iret hx hq rfl d_Mo_byteAt_18 (by first | (unfold mbt; first | exact (if_pos (i_nlt zc5)).symm | exact (if_neg (i_lle zc5)).symm) | fail) (by first | (first | rfl | (simp only [zc5]; done) | (simp [zc5]; done)) | fail)

set_option maxRecDepth 20000 in
set_option maxHeartbeats 600000 in
theorem c_Mo_wrong {l : Launch} {G : Gz} (hG : zI G) (σ : St) (k9 : Int32) (p9 : Int32) : MV l G y_Mo_wrong prog_14_method_12_code 3 1 [.ref (G.1 111), .int k9, .int p9] σ (wr σ k9 p9) := by
  refine MV.of hG (by decide) (Nat.le_of_ble_eq_true rfl) (fun X hx hq => ?_)
  show J l G X 3 σ 0 [(0, .ref (G.1 111)), (1, .int k9), (2, .int p9)] []
  refine j_aload_n hx d_Mo_wrong_0 rfl 0 rfl ?_
  refine j_get hx ck_Mo 5 (by decide) t_1423 (by decide) (sh_111 _ _) rfl d_Mo_wrong_1 ?_
  refine j_if_ne (tgt := 17) hx d_Mo_wrong_4 (by decide) (fun zc4 => ?_) (fun zc4 => ?_)
  · skip
    exact j_vret hx hq d_Mo_wrong_17 (by first | (unfold wr; first | exact (if_neg zc4).symm | exact (if_pos zc4).symm | exact (if_pos (Decidable.not_not.mp zc4)).symm) | fail)
  · skip
    refine j_aload_n hx d_Mo_wrong_7 rfl 0 rfl ?_
    refine j_iload_n hx d_Mo_wrong_8 rfl 1 rfl ?_
    refine j_put hx ck_Mo 5 (by decide) t_1423 (by decide) (sh_111 _ _) rfl (Nat.le_of_ble_eq_true rfl) (sh_111 _ _) d_Mo_wrong_9 ?_
    refine j_aload_n hx d_Mo_wrong_12 rfl 0 rfl ?_
    refine j_iload_n hx d_Mo_wrong_13 rfl 2 rfl ?_
    refine j_put hx ck_Mo 6 (by decide) t_1424 (by decide) (sh_111 _ _) rfl (Nat.le_of_ble_eq_true rfl) (sh_111 _ _) d_Mo_wrong_14 ?_
    exact j_vret hx hq d_Mo_wrong_17 (by first | (unfold wr; first | exact (if_neg zc4).symm | exact (if_pos zc4).symm | exact (if_pos (Decidable.not_not.mp zc4)).symm) | fail)

set_option maxRecDepth 20000 in
set_option maxHeartbeats 600000 in
theorem c_Mo_isDigit {l : Launch} {G : Gz} (hG : zI G) (σ : St) (c : Int32) : MI l G y_Mo_isDigit prog_14_method_13_code 1 .boolean 1 [.int c] σ (b2 (48 ≤ c ∧ c ≤ 57)) σ := by
  refine MI.of hG (by decide) (Nat.le_of_ble_eq_true rfl) (fun X hx hq => ?_)
  show J l G X 1 σ 0 [(0, .int c)] []
  refine j_iload_n hx d_Mo_isDigit_0 rfl 0 rfl ?_
  refine j_bipush (v := 48) hx d_Mo_isDigit_1 (by decide) ?_
  refine j_icmp_lt (tgt := 16) hx d_Mo_isDigit_3 (by decide) (fun zc3 => ?_) (fun zc3 => ?_)
  · skip
    refine j_iconst (v := 0) hx d_Mo_isDigit_16 (by decide) ?_
    exact j_iret hx hq rfl d_Mo_isDigit_17 (by first | (first | exact (b2_t ⟨i_nlt zc3, i_nlt zc9⟩).symm | exact (b2_f (fun z => i_lelt z.1 zc3)).symm | exact (b2_f (fun z => i_lelt z.2 zc9)).symm) | fail) (by first | (first | rfl | (simp only [zc3]; done) | (simp [zc3]; done)) | fail)
  · skip
    refine j_iload_n hx d_Mo_isDigit_6 rfl 0 rfl ?_
    refine j_bipush (v := 57) hx d_Mo_isDigit_7 (by decide) ?_
    refine j_icmp_gt (tgt := 16) hx d_Mo_isDigit_9 (by decide) (fun zc9 => ?_) (fun zc9 => ?_)
    · skip
      refine j_iconst (v := 0) hx d_Mo_isDigit_16 (by decide) ?_
      exact j_iret hx hq rfl d_Mo_isDigit_17 (by first | (first | exact (b2_t ⟨i_nlt zc3, i_nlt zc9⟩).symm | exact (b2_f (fun z => i_lelt z.1 zc3)).symm | exact (b2_f (fun z => i_lelt z.2 zc9)).symm) | fail) (by first | (first | rfl | (simp only [zc3, zc9]; done) | (simp [zc3, zc9]; done)) | fail)
    · skip
      refine j_iconst (v := 1) hx d_Mo_isDigit_12 (by decide) ?_
      refine j_goto (tgt := 17) hx d_Mo_isDigit_13 (by decide) ?_
      exact j_iret hx hq rfl d_Mo_isDigit_17 (by first | (first | exact (b2_t ⟨i_nlt zc3, i_nlt zc9⟩).symm | exact (b2_f (fun z => i_lelt z.1 zc3)).symm | exact (b2_f (fun z => i_lelt z.2 zc9)).symm) | fail) (by first | (first | rfl | (simp only [zc3, zc9]; done) | (simp [zc3, zc9]; done)) | fail)

set_option maxRecDepth 20000 in
set_option maxHeartbeats 600000 in
theorem c_Mo_isSmall {l : Launch} {G : Gz} (hG : zI G) (σ : St) (c : Int32) : MI l G y_Mo_isSmall prog_14_method_14_code 1 .boolean 1 [.int c] σ (b2 (97 ≤ c ∧ c ≤ 122)) σ := by
  refine MI.of hG (by decide) (Nat.le_of_ble_eq_true rfl) (fun X hx hq => ?_)
  show J l G X 1 σ 0 [(0, .int c)] []
  refine j_iload_n hx d_Mo_isSmall_0 rfl 0 rfl ?_
  refine j_bipush (v := 97) hx d_Mo_isSmall_1 (by decide) ?_
  refine j_icmp_lt (tgt := 16) hx d_Mo_isSmall_3 (by decide) (fun zc3 => ?_) (fun zc3 => ?_)
  · skip
    refine j_iconst (v := 0) hx d_Mo_isSmall_16 (by decide) ?_
    exact j_iret hx hq rfl d_Mo_isSmall_17 (by first | (first | exact (b2_t ⟨i_nlt zc3, i_nlt zc9⟩).symm | exact (b2_f (fun z => i_lelt z.1 zc3)).symm | exact (b2_f (fun z => i_lelt z.2 zc9)).symm) | fail) (by first | (first | rfl | (simp only [zc3]; done) | (simp [zc3]; done)) | fail)
  · skip
    refine j_iload_n hx d_Mo_isSmall_6 rfl 0 rfl ?_
    refine j_bipush (v := 122) hx d_Mo_isSmall_7 (by decide) ?_
    refine j_icmp_gt (tgt := 16) hx d_Mo_isSmall_9 (by decide) (fun zc9 => ?_) (fun zc9 => ?_)
    · skip
      refine j_iconst (v := 0) hx d_Mo_isSmall_16 (by decide) ?_
      exact j_iret hx hq rfl d_Mo_isSmall_17 (by first | (first | exact (b2_t ⟨i_nlt zc3, i_nlt zc9⟩).symm | exact (b2_f (fun z => i_lelt z.1 zc3)).symm | exact (b2_f (fun z => i_lelt z.2 zc9)).symm) | fail) (by first | (first | rfl | (simp only [zc3, zc9]; done) | (simp [zc3, zc9]; done)) | fail)
    · skip
      refine j_iconst (v := 1) hx d_Mo_isSmall_12 (by decide) ?_
      refine j_goto (tgt := 17) hx d_Mo_isSmall_13 (by decide) ?_
      exact j_iret hx hq rfl d_Mo_isSmall_17 (by first | (first | exact (b2_t ⟨i_nlt zc3, i_nlt zc9⟩).symm | exact (b2_f (fun z => i_lelt z.1 zc3)).symm | exact (b2_f (fun z => i_lelt z.2 zc9)).symm) | fail) (by first | (first | rfl | (simp only [zc3, zc9]; done) | (simp [zc3, zc9]; done)) | fail)

set_option maxRecDepth 20000 in
set_option maxHeartbeats 600000 in
theorem c_Mo_blanks {l : Launch} {G : Gz} (hG : zI G) (σ : St) (hp : pB σ) : MV l G y_Mo_blanks prog_14_method_11_code 1 2 [.ref (G.1 111)] σ (mbl σ) := by
  refine MV.of hG (by decide) (Nat.le_of_ble_eq_true rfl) (fun X hx hq => ?_)
  show J l G X 1 σ 0 [(0, .ref (G.1 111))] []
  have hl0 : ∀ (N9 : Nat) (p : Int32), (0 ≤ p.toInt) → (p.toInt ≤ (σ 111 2).toInt) → (rn (σ 111 2) (isB (σ 112)) p = rn (σ 111 2) (isB (σ 112)) (σ 111 4)) → ((σ 111 2).toInt - p.toInt).toNat = N9 → J l G X 1 (up σ 111 4 p) 0 [(0, .ref (G.1 111))] [] := by
    intro N9
    induction N9 using Nat.strongRecOn with
    | _ N9 ih0 =>
      intro p h1 h2 hr hm0
      have e2 : (up σ 111 4 p) 111 2 = σ 111 2 := up_k (by decide)
      have e3 : (up σ 111 4 p) 112 = σ 112 := up_o (by decide)
      have e4 : (up σ 111 4 p) 111 4 = p := up_rd
      refine j_aload_n hx d_Mo_blanks_0 rfl 0 rfl ?_
      refine j_aload_n hx d_Mo_blanks_1 rfl 0 rfl ?_
      refine j_get hx ck_Mo 4 (by decide) t_1422 (by decide) (sh_111 _ _) rfl d_Mo_blanks_2 ?_
      refine j_callVi hx (c_Mo_byteAt hG (up σ 111 4 p) ((up σ 111 4 p) 111 4) (by rw [e4]; exact h1) (by rw [e2]; exact hp.2.2)) mo_Mo_byteAt mv_Mo_byteAt t_1596 (by decide) rfl (by decide) (sh_111 _ _) rfl rfl (Nat.le_of_ble_eq_true rfl) d_Mo_blanks_5 ?_
      refine j_bipush (v := 32) hx d_Mo_blanks_8 (by decide) ?_
      refine j_icmp_ne (tgt := 26) hx d_Mo_blanks_10 (by decide) (fun zc10 => ?_) (fun zc10 => ?_)
      · skip
        rw [e2, e3, e4] at zc10
        have hstop := rn_stop (fun z => zc10 ((mbtB h1 hp.2.2).mpr z))
        exact j_vret hx hq d_Mo_blanks_26 (by first | (unfold mbl; rw [← hr, hstop]) | fail)
      · skip
        rw [e2, e3, e4] at zc10
        have hlt := (mbtB h1 hp.2.2).mp zc10
        refine j_aload_n hx d_Mo_blanks_13 rfl 0 rfl ?_
        refine j_dup hx d_Mo_blanks_14 rfl ?_
        refine j_get hx ck_Mo 4 (by decide) t_1422 (by decide) (sh_111 _ _) rfl d_Mo_blanks_15 ?_
        refine j_iconst (v := 1) hx d_Mo_blanks_18 (by decide) ?_
        refine j_iadd hx d_Mo_blanks_19 ?_
        refine j_put hx ck_Mo 4 (by decide) t_1422 (by decide) (sh_111 _ _) rfl (Nat.le_of_ble_eq_true rfl) (sh_111 _ _) d_Mo_blanks_20 ?_
        refine j_goto (tgt := 0) hx d_Mo_blanks_23 (by decide) ?_
        refine J.lsub (ls' := [(0, .ref (G.1 111))]) [0] rfl ?_
        refine J.to ?_ ?_ (ih0 _ ?_ (p + 1) (by have := i_s1 hlt.1; omega) (by have := i_s1 hlt.1; have h9 := hlt.1; rw [i_lt] at h9; omega) ((rn_go hlt.1 hlt.2).symm.trans hr) rfl)
        · first | (rw [up_up, e4]) | fail
        · first | (rfl) | fail
        · first | (exact rn_dec hlt.1 hm0) | fail
  refine J.lsub (ls' := [(0, .ref (G.1 111))]) [0] rfl ?_
  refine J.to ?_ ?_ (hl0 _ (σ 111 4) hp.1 hp.2.1 rfl rfl)
  · first | (exact up_id.symm) | fail
  · first | (rfl) | fail

set_option maxRecDepth 20000 in
set_option maxHeartbeats 600000 in
theorem c_Mo_skipWord {l : Launch} {G : Gz} (hG : zI G) (σ : St) (hp : pB σ) : MV l G y_Mo_skipWord prog_14_method_19_code 1 2 [.ref (G.1 111)] σ (msk σ) := by
  refine MV.of hG (by decide) (Nat.le_of_ble_eq_true rfl) (fun X hx hq => ?_)
  show J l G X 1 σ 0 [(0, .ref (G.1 111))] []
  have hl0 : ∀ (N9 : Nat) (p : Int32), (0 ≤ p.toInt) → (p.toInt ≤ (σ 111 2).toInt) → (rn (σ 111 2) (isA (σ 112)) p = rn (σ 111 2) (isA (σ 112)) (σ 111 4)) → ((σ 111 2).toInt - p.toInt).toNat = N9 → J l G X 1 (up σ 111 4 p) 0 [(0, .ref (G.1 111))] [] := by
    intro N9
    induction N9 using Nat.strongRecOn with
    | _ N9 ih0 =>
      intro p h1 h2 hr hm0
      have e2 : (up σ 111 4 p) 111 2 = σ 111 2 := up_k (by decide)
      have e3 : (up σ 111 4 p) 112 = σ 112 := up_o (by decide)
      have e4 : (up σ 111 4 p) 111 4 = p := up_rd
      refine j_aload_n hx d_Mo_skipWord_0 rfl 0 rfl ?_
      refine j_aload_n hx d_Mo_skipWord_1 rfl 0 rfl ?_
      refine j_get hx ck_Mo 4 (by decide) t_1422 (by decide) (sh_111 _ _) rfl d_Mo_skipWord_2 ?_
      refine j_callVi hx (c_Mo_byteAt hG (up σ 111 4 p) ((up σ 111 4 p) 111 4) (by rw [e4]; exact h1) (by rw [e2]; exact hp.2.2)) mo_Mo_byteAt mv_Mo_byteAt t_1596 (by decide) rfl (by decide) (sh_111 _ _) rfl rfl (Nat.le_of_ble_eq_true rfl) d_Mo_skipWord_5 ?_
      refine j_callSi hx (c_Mo_isSmall hG (up σ 111 4 p) (mbt ((up σ 111 4 p) 111 2) ((up σ 111 4 p) 112) ((up σ 111 4 p) 111 4))) mo_Mo_isSmall t_1617 t_1616 (by decide) rfl rfl (Nat.le_of_ble_eq_true rfl) d_Mo_skipWord_8 ?_
      refine j_if_eq (tgt := 27) hx d_Mo_skipWord_11 (by decide) (fun zc11 => ?_) (fun zc11 => ?_)
      · skip
        rw [e2, e3, e4] at zc11
        have hstop := rn_stop (fun z => b2_z zc11 ((mbtA h1 hp.2.2).mpr z))
        exact j_vret hx hq d_Mo_skipWord_27 (by first | (unfold msk; rw [← hr, hstop]) | fail)
      · skip
        rw [e2, e3, e4] at zc11
        have hlt := (mbtA h1 hp.2.2).mp (b2_nz zc11)
        refine j_aload_n hx d_Mo_skipWord_14 rfl 0 rfl ?_
        refine j_dup hx d_Mo_skipWord_15 rfl ?_
        refine j_get hx ck_Mo 4 (by decide) t_1422 (by decide) (sh_111 _ _) rfl d_Mo_skipWord_16 ?_
        refine j_iconst (v := 1) hx d_Mo_skipWord_19 (by decide) ?_
        refine j_iadd hx d_Mo_skipWord_20 ?_
        refine j_put hx ck_Mo 4 (by decide) t_1422 (by decide) (sh_111 _ _) rfl (Nat.le_of_ble_eq_true rfl) (sh_111 _ _) d_Mo_skipWord_21 ?_
        refine j_goto (tgt := 0) hx d_Mo_skipWord_24 (by decide) ?_
        refine J.lsub (ls' := [(0, .ref (G.1 111))]) [0] rfl ?_
        refine J.to ?_ ?_ (ih0 _ ?_ (p + 1) (by have := i_s1 hlt.1; omega) (by have := i_s1 hlt.1; have h9 := hlt.1; rw [i_lt] at h9; omega) ((rn_go hlt.1 hlt.2).symm.trans hr) rfl)
        · first | (rw [up_up, e4]) | fail
        · first | (rfl) | fail
        · first | (exact rn_dec hlt.1 hm0) | fail
  refine J.lsub (ls' := [(0, .ref (G.1 111))]) [0] rfl ?_
  refine J.to ?_ ?_ (hl0 _ (σ 111 4) hp.1 hp.2.1 rfl rfl)
  · first | (exact up_id.symm) | fail
  · first | (rfl) | fail

set_option maxRecDepth 20000 in
set_option maxHeartbeats 600000 in
theorem c_Mo_number {l : Launch} {G : Gz} (hG : zI G) (σ : St) (lo : Int32) (hi : Int32) (hp : pB σ) : MI l G y_Mo_number prog_14_method_15_code 5 .int 3 [.ref (G.1 111), .int lo, .int hi] σ (mnV σ lo hi) (mnS σ lo hi) := by
  refine MI.of hG (by decide) (Nat.le_of_ble_eq_true rfl) (fun X hx hq => ?_)
  show J l G X 5 σ 0 [(0, .ref (G.1 111)), (1, .int lo), (2, .int hi)] []
  refine j_aload_n hx d_Mo_number_0 rfl 0 rfl ?_
  refine j_get hx ck_Mo 5 (by decide) t_1423 (by decide) (sh_111 _ _) rfl d_Mo_number_1 ?_
  refine j_if_eq (tgt := 9) hx d_Mo_number_4 (by decide) (fun zc4 => ?_) (fun zc4 => ?_)
  · skip
    refine j_aload_n hx d_Mo_number_9 rfl 0 rfl ?_
    refine j_callVv hx (c_Mo_blanks hG σ (by exact hp)) mo_Mo_blanks mv_Mo_blanks t_1592 (by decide) rfl (by decide) (sh_111 _ _) rfl rfl (Nat.le_of_ble_eq_true rfl) d_Mo_number_10 ?_
    have hpb := (mbl_p hp).1
    refine j_aload_n hx d_Mo_number_13 rfl 0 rfl ?_
    refine j_get hx ck_Mo 4 (by decide) t_1422 (by decide) (sh_111 _ _) rfl d_Mo_number_14 ?_
    refine j_istore_n hx [(3, .int ((mbl σ) 111 4)), (0, .ref (G.1 111)), (1, .int lo), (2, .int hi)] d_Mo_number_17 rfl (by decide) rfl ?_
    refine j_iconst (v := 0) hx d_Mo_number_18 (by decide) ?_
    refine j_istore hx [(4, .int 0), (3, .int ((mbl σ) 111 4)), (0, .ref (G.1 111)), (1, .int lo), (2, .int hi)] d_Mo_number_19 (by decide) rfl ?_
    refine j_aload_n hx d_Mo_number_21 rfl 2 rfl ?_
    refine j_aload_n hx d_Mo_number_22 rfl 2 rfl ?_
    refine j_get hx ck_Mo 4 (by decide) t_1422 (by decide) (sh_111 _ _) rfl d_Mo_number_23 ?_
    refine j_callVi hx (c_Mo_byteAt hG (mbl σ) ((mbl σ) 111 4) (by exact hpb.1) (by exact hpb.2.2)) mo_Mo_byteAt mv_Mo_byteAt t_1596 (by decide) rfl (by decide) (sh_111 _ _) rfl rfl (Nat.le_of_ble_eq_true rfl) d_Mo_number_26 ?_
    refine j_callSi hx (c_Mo_isDigit hG (mbl σ) (mbt ((mbl σ) 111 2) ((mbl σ) 112) ((mbl σ) 111 4))) mo_Mo_isDigit t_1638 t_1637 (by decide) rfl rfl (Nat.le_of_ble_eq_true rfl) d_Mo_number_29 ?_
    refine j_if_ne (tgt := 44) hx d_Mo_number_32 (by decide) (fun zc32 => ?_) (fun zc32 => ?_)
    · skip
      obtain ⟨s9_1, eg_1⟩ : ∃ z : St, z = mn1 σ := ⟨_, rfl⟩
      refine J.to (σ' := s9_1) (by rw [eg_1]; unfold mn1; first | (rw [if_pos zc32]; done) | (rw [if_neg zc32]; done)) rfl ?_
      have hp1 : pB s9_1 := by rw [eg_1]; exact mn1_p hp
      have hl44 : ∀ (N9 : Nat) (v p : Int32), (0 ≤ p.toInt) → (p.toInt ≤ (s9_1 111 2).toInt) → (rn (s9_1 111 2) (isD (s9_1 112)) p = rn (s9_1 111 2) (isD (s9_1 112)) (s9_1 111 4)) → (rv (s9_1 111 2) (isD (s9_1 112)) (mgG (s9_1 111 2) (s9_1 112)) v p = mnv s9_1) → ((s9_1 111 2).toInt - p.toInt).toNat = N9 → J l G X 5 (up s9_1 111 4 p) 44 [(0, .ref (G.1 111)), (1, .int lo), (2, .int hi), (3, .int ((mbl σ) 111 4)), (4, .int v)] [] := by
        intro N9
        induction N9 using Nat.strongRecOn with
        | _ N9 ih44 =>
          intro v p h1 h2 hrr hrv hm44
          have e2 : (up s9_1 111 4 p) 111 2 = s9_1 111 2 := up_k (by decide)
          have e3 : (up s9_1 111 4 p) 112 = s9_1 112 := up_o (by decide)
          have e4 : (up s9_1 111 4 p) 111 4 = p := up_rd
          refine j_aload_n hx d_Mo_number_44 rfl 0 rfl ?_
          refine j_aload_n hx d_Mo_number_45 rfl 0 rfl ?_
          refine j_get hx ck_Mo 4 (by decide) t_1422 (by decide) (sh_111 _ _) rfl d_Mo_number_46 ?_
          refine j_callVi hx (c_Mo_byteAt hG (up s9_1 111 4 p) ((up s9_1 111 4 p) 111 4) (by rw [e4]; exact h1) (by rw [e2]; exact hp1.2.2)) mo_Mo_byteAt mv_Mo_byteAt t_1596 (by decide) rfl (by decide) (sh_111 _ _) rfl rfl (Nat.le_of_ble_eq_true rfl) d_Mo_number_49 ?_
          refine j_callSi hx (c_Mo_isDigit hG (up s9_1 111 4 p) (mbt ((up s9_1 111 4 p) 111 2) ((up s9_1 111 4 p) 112) ((up s9_1 111 4 p) 111 4))) mo_Mo_isDigit t_1638 t_1637 (by decide) rfl rfl (Nat.le_of_ble_eq_true rfl) d_Mo_number_52 ?_
          refine j_if_eq (tgt := 106) hx d_Mo_number_55 (by decide) (fun zc55 => ?_) (fun zc55 => ?_)
          · skip
            rw [e2, e3, e4] at zc55
            have hst1 := rn_stop (len := s9_1 111 2) (P := isD (s9_1 112)) (p := p) (fun z => b2_z zc55 ((mbtD h1 hp1.2.2).mpr z))
            have hst2 := rv_stop (len := s9_1 111 2) (P := isD (s9_1 112)) (p := p) (g := mgG (s9_1 111 2) (s9_1 112)) (v := v) (fun z => b2_z zc55 ((mbtD h1 hp1.2.2).mpr z))
            have e9 : up s9_1 111 4 p = mn2 σ := by unfold mn2; rw [← eg_1, ← hrr, hst1]
            have e8 : v = mnv (mn1 σ) := by rw [← eg_1]; exact hst2.symm.trans hrv
            refine j_iload hx d_Mo_number_106 4 rfl ?_
            refine j_iload_n hx d_Mo_number_108 rfl 1 rfl ?_
            refine j_iload_n hx d_Mo_number_109 rfl 2 rfl ?_
            refine j_callSi hx (c_Mo_in hG (up s9_1 111 4 p) v lo hi) mo_Mo_in t_1582 t_1581 (by decide) rfl rfl (Nat.le_of_ble_eq_true rfl) d_Mo_number_110 ?_
            refine j_if_ne (tgt := 122) hx d_Mo_number_113 (by decide) (fun zc113 => ?_) (fun zc113 => ?_)
            · skip
              obtain ⟨s9_2, eg_2⟩ : ∃ z : St, z = mn3 σ lo hi := ⟨_, rfl⟩
              refine J.to (σ' := s9_2) (by rw [eg_2]; rw [e9]; rw [e8] at zc113; unfold mn3; first | (rw [if_pos zc113]; done) | (rw [if_neg zc113]; done)) rfl ?_
              refine j_aload_n hx d_Mo_number_122 rfl 0 rfl ?_
              refine j_get hx ck_Mo 5 (by decide) t_1423 (by decide) (sh_111 _ _) rfl d_Mo_number_123 ?_
              refine j_if_ne (tgt := 134) hx d_Mo_number_126 (by decide) (fun zc126 => ?_) (fun zc126 => ?_)
              · skip
                refine j_iconst (v := 0) hx d_Mo_number_134 (by decide) ?_
                exact j_iret hx hq rfl d_Mo_number_135 (by first | (unfold mnV; rw [eg_2] at zc126; rw [if_pos zc4]; first | (rw [e8]; exact (if_pos zc126).symm) | exact (if_neg zc126).symm) | fail) (by first | (unfold mnS; rw [eg_2]; exact (if_pos zc4).symm) | fail)
              · skip
                refine j_iload hx d_Mo_number_129 4 rfl ?_
                refine j_goto (tgt := 135) hx d_Mo_number_131 (by decide) ?_
                exact j_iret hx hq rfl d_Mo_number_135 (by first | (unfold mnV; rw [eg_2] at zc126; rw [if_pos zc4]; first | (rw [e8]; exact (if_pos zc126).symm) | exact (if_neg zc126).symm) | fail) (by first | (unfold mnS; rw [eg_2]; exact (if_pos zc4).symm) | fail)
            · skip
              refine j_aload_n hx d_Mo_number_116 rfl 0 rfl ?_
              refine j_iconst (v := 2) hx d_Mo_number_117 (by decide) ?_
              refine j_iload_n hx d_Mo_number_118 rfl 3 rfl ?_
              refine j_callVv hx (c_Mo_wrong hG (up s9_1 111 4 p) 2 ((mbl σ) 111 4)) mo_Mo_wrong mv_Mo_wrong t_1622 (by decide) rfl (by decide) (sh_111 _ _) rfl rfl (Nat.le_of_ble_eq_true rfl) d_Mo_number_119 ?_
              obtain ⟨s9_2, eg_2⟩ : ∃ z : St, z = mn3 σ lo hi := ⟨_, rfl⟩
              refine J.to (σ' := s9_2) (by rw [eg_2]; rw [e9]; rw [e8] at zc113; unfold mn3; first | (rw [if_pos zc113]; done) | (rw [if_neg zc113]; done)) rfl ?_
              refine j_aload_n hx d_Mo_number_122 rfl 0 rfl ?_
              refine j_get hx ck_Mo 5 (by decide) t_1423 (by decide) (sh_111 _ _) rfl d_Mo_number_123 ?_
              refine j_if_ne (tgt := 134) hx d_Mo_number_126 (by decide) (fun zc126 => ?_) (fun zc126 => ?_)
              · skip
                refine j_iconst (v := 0) hx d_Mo_number_134 (by decide) ?_
                exact j_iret hx hq rfl d_Mo_number_135 (by first | (unfold mnV; rw [eg_2] at zc126; rw [if_pos zc4]; first | (rw [e8]; exact (if_pos zc126).symm) | exact (if_neg zc126).symm) | fail) (by first | (unfold mnS; rw [eg_2]; exact (if_pos zc4).symm) | fail)
              · skip
                refine j_iload hx d_Mo_number_129 4 rfl ?_
                refine j_goto (tgt := 135) hx d_Mo_number_131 (by decide) ?_
                exact j_iret hx hq rfl d_Mo_number_135 (by first | (unfold mnV; rw [eg_2] at zc126; rw [if_pos zc4]; first | (rw [e8]; exact (if_pos zc126).symm) | exact (if_neg zc126).symm) | fail) (by first | (unfold mnS; rw [eg_2]; exact (if_pos zc4).symm) | fail)
          · skip
            rw [e2, e3, e4] at zc55
            have hlt := (mbtD h1 hp1.2.2).mp (b2_nz zc55)
            refine j_bipush (v := 10) hx d_Mo_number_58 (by decide) ?_
            refine j_iload hx d_Mo_number_60 4 rfl ?_
            refine j_imul hx d_Mo_number_62 ?_
            refine j_aload_n hx d_Mo_number_63 rfl 0 rfl ?_
            refine j_aload_n hx d_Mo_number_64 rfl 0 rfl ?_
            refine j_get hx ck_Mo 4 (by decide) t_1422 (by decide) (sh_111 _ _) rfl d_Mo_number_65 ?_
            refine j_callVi hx (c_Mo_byteAt hG (up s9_1 111 4 p) ((up s9_1 111 4 p) 111 4) (by rw [e4]; exact h1) (by rw [e2]; exact hp1.2.2)) mo_Mo_byteAt mv_Mo_byteAt t_1596 (by decide) rfl (by decide) (sh_111 _ _) rfl rfl (Nat.le_of_ble_eq_true rfl) d_Mo_number_68 ?_
            refine j_iadd hx d_Mo_number_71 ?_
            refine j_bipush (v := 48) hx d_Mo_number_72 (by decide) ?_
            refine j_isub hx d_Mo_number_74 ?_
            refine j_istore hx [(4, .int (((10 * v) + (mbt ((up s9_1 111 4 p) 111 2) ((up s9_1 111 4 p) 112) ((up s9_1 111 4 p) 111 4))) - 48)), (0, .ref (G.1 111)), (1, .int lo), (2, .int hi), (3, .int ((mbl σ) 111 4))] d_Mo_number_75 (by decide) rfl ?_
            refine j_iload hx d_Mo_number_77 0 rfl ?_
            refine j_ldc (v := 100000) hx t_1640 d_Mo_number_79 ?_
            refine j_icmp_le (tgt := 89) hx d_Mo_number_81 (by decide) (fun zc81 => ?_) (fun zc81 => ?_)
            · skip
              refine j_iload hx d_Mo_number_89 0 rfl ?_
              refine j_istore hx [(4, .int (((10 * v) + (mbt ((up s9_1 111 4 p) 111 2) ((up s9_1 111 4 p) 112) ((up s9_1 111 4 p) 111 4))) - 48)), (0, .ref (G.1 111)), (1, .int lo), (2, .int hi), (3, .int ((mbl σ) 111 4))] d_Mo_number_91 (by decide) rfl ?_
              refine j_aload_n hx d_Mo_number_93 rfl 1 rfl ?_
              refine j_dup hx d_Mo_number_94 rfl ?_
              refine j_get hx ck_Mo 4 (by decide) t_1422 (by decide) (sh_111 _ _) rfl d_Mo_number_95 ?_
              refine j_iconst (v := 1) hx d_Mo_number_98 (by decide) ?_
              refine j_iadd hx d_Mo_number_99 ?_
              refine j_put hx ck_Mo 4 (by decide) t_1422 (by decide) (sh_111 _ _) rfl (Nat.le_of_ble_eq_true rfl) (sh_111 _ _) d_Mo_number_100 ?_
              refine j_goto (tgt := 44) hx d_Mo_number_103 (by decide) ?_
              refine J.lsub (ls' := [(0, .ref (G.1 111)), (1, .int lo), (2, .int hi), (3, .int ((mbl σ) 111 4)), (4, .int (((10 * v) + (mbt ((up s9_1 111 4 p) 111 2) ((up s9_1 111 4 p) 112) ((up s9_1 111 4 p) 111 4))) - 48))]) [1, 2, 3, 4, 0] rfl ?_
              refine J.to ?_ ?_ (ih44 _ ?_ (mgG (s9_1 111 2) (s9_1 112) v p) (p + 1) (by have := i_s1 hlt.1; omega) (by have := i_s1 hlt.1; have h9 := hlt.1; rw [i_lt] at h9; omega) ((rn_go hlt.1 hlt.2).symm.trans hrr) ((rv_go hlt.1 hlt.2).symm.trans hrv) rfl)
              · first | (rw [up_up, e4]) | fail
              · first | (rw [e2, e3, e4] at zc81; unfold mgG; first | (rw [if_neg (i_lelt zc81), e2, e3, e4]; done) | (rw [if_pos (i_nle zc81)]; done)) | fail
              · first | (exact rn_dec hlt.1 hm44) | fail
            · skip
              refine j_ldc (v := 100000) hx t_1640 d_Mo_number_84 ?_
              refine j_goto (tgt := 91) hx d_Mo_number_86 (by decide) ?_
              refine j_istore hx [(4, .int 100000), (0, .ref (G.1 111)), (1, .int lo), (2, .int hi), (3, .int ((mbl σ) 111 4))] d_Mo_number_91 (by decide) rfl ?_
              refine j_aload_n hx d_Mo_number_93 rfl 1 rfl ?_
              refine j_dup hx d_Mo_number_94 rfl ?_
              refine j_get hx ck_Mo 4 (by decide) t_1422 (by decide) (sh_111 _ _) rfl d_Mo_number_95 ?_
              refine j_iconst (v := 1) hx d_Mo_number_98 (by decide) ?_
              refine j_iadd hx d_Mo_number_99 ?_
              refine j_put hx ck_Mo 4 (by decide) t_1422 (by decide) (sh_111 _ _) rfl (Nat.le_of_ble_eq_true rfl) (sh_111 _ _) d_Mo_number_100 ?_
              refine j_goto (tgt := 44) hx d_Mo_number_103 (by decide) ?_
              refine J.lsub (ls' := [(0, .ref (G.1 111)), (1, .int lo), (2, .int hi), (3, .int ((mbl σ) 111 4)), (4, .int 100000)]) [1, 2, 3, 4, 0] rfl ?_
              refine J.to ?_ ?_ (ih44 _ ?_ (mgG (s9_1 111 2) (s9_1 112) v p) (p + 1) (by have := i_s1 hlt.1; omega) (by have := i_s1 hlt.1; have h9 := hlt.1; rw [i_lt] at h9; omega) ((rn_go hlt.1 hlt.2).symm.trans hrr) ((rv_go hlt.1 hlt.2).symm.trans hrv) rfl)
              · first | (rw [up_up, e4]) | fail
              · first | (rw [e2, e3, e4] at zc81; unfold mgG; first | (rw [if_neg (i_lelt zc81), e2, e3, e4]; done) | (rw [if_pos (i_nle zc81)]; done)) | fail
              · first | (exact rn_dec hlt.1 hm44) | fail
      refine J.lsub (ls' := [(0, .ref (G.1 111)), (1, .int lo), (2, .int hi), (3, .int ((mbl σ) 111 4)), (4, .int 0)]) [2, 3, 4, 1, 0] rfl ?_
      refine J.to ?_ ?_ (hl44 _ 0 (s9_1 111 4) hp1.1 hp1.2.1 rfl rfl rfl)
      · first | (exact up_id.symm) | fail
      · first | (rfl) | fail
    · skip
      refine j_aload_n hx d_Mo_number_35 rfl 2 rfl ?_
      refine j_iconst (v := 1) hx d_Mo_number_36 (by decide) ?_
      refine j_aload_n hx d_Mo_number_37 rfl 2 rfl ?_
      refine j_get hx ck_Mo 4 (by decide) t_1422 (by decide) (sh_111 _ _) rfl d_Mo_number_38 ?_
      refine j_callVv hx (c_Mo_wrong hG (mbl σ) 1 ((mbl σ) 111 4)) mo_Mo_wrong mv_Mo_wrong t_1622 (by decide) rfl (by decide) (sh_111 _ _) rfl rfl (Nat.le_of_ble_eq_true rfl) d_Mo_number_41 ?_
      obtain ⟨s9_1, eg_1⟩ : ∃ z : St, z = mn1 σ := ⟨_, rfl⟩
      refine J.to (σ' := s9_1) (by rw [eg_1]; unfold mn1; first | (rw [if_pos zc32]; done) | (rw [if_neg zc32]; done)) rfl ?_
      have hp1 : pB s9_1 := by rw [eg_1]; exact mn1_p hp
      have hl44 : ∀ (N9 : Nat) (v p : Int32), (0 ≤ p.toInt) → (p.toInt ≤ (s9_1 111 2).toInt) → (rn (s9_1 111 2) (isD (s9_1 112)) p = rn (s9_1 111 2) (isD (s9_1 112)) (s9_1 111 4)) → (rv (s9_1 111 2) (isD (s9_1 112)) (mgG (s9_1 111 2) (s9_1 112)) v p = mnv s9_1) → ((s9_1 111 2).toInt - p.toInt).toNat = N9 → J l G X 5 (up s9_1 111 4 p) 44 [(0, .ref (G.1 111)), (1, .int lo), (2, .int hi), (3, .int ((mbl σ) 111 4)), (4, .int v)] [] := by
        intro N9
        induction N9 using Nat.strongRecOn with
        | _ N9 ih44 =>
          intro v p h1 h2 hrr hrv hm44
          have e2 : (up s9_1 111 4 p) 111 2 = s9_1 111 2 := up_k (by decide)
          have e3 : (up s9_1 111 4 p) 112 = s9_1 112 := up_o (by decide)
          have e4 : (up s9_1 111 4 p) 111 4 = p := up_rd
          refine j_aload_n hx d_Mo_number_44 rfl 0 rfl ?_
          refine j_aload_n hx d_Mo_number_45 rfl 0 rfl ?_
          refine j_get hx ck_Mo 4 (by decide) t_1422 (by decide) (sh_111 _ _) rfl d_Mo_number_46 ?_
          refine j_callVi hx (c_Mo_byteAt hG (up s9_1 111 4 p) ((up s9_1 111 4 p) 111 4) (by rw [e4]; exact h1) (by rw [e2]; exact hp1.2.2)) mo_Mo_byteAt mv_Mo_byteAt t_1596 (by decide) rfl (by decide) (sh_111 _ _) rfl rfl (Nat.le_of_ble_eq_true rfl) d_Mo_number_49 ?_
          refine j_callSi hx (c_Mo_isDigit hG (up s9_1 111 4 p) (mbt ((up s9_1 111 4 p) 111 2) ((up s9_1 111 4 p) 112) ((up s9_1 111 4 p) 111 4))) mo_Mo_isDigit t_1638 t_1637 (by decide) rfl rfl (Nat.le_of_ble_eq_true rfl) d_Mo_number_52 ?_
          refine j_if_eq (tgt := 106) hx d_Mo_number_55 (by decide) (fun zc55 => ?_) (fun zc55 => ?_)
          · skip
            rw [e2, e3, e4] at zc55
            have hst1 := rn_stop (len := s9_1 111 2) (P := isD (s9_1 112)) (p := p) (fun z => b2_z zc55 ((mbtD h1 hp1.2.2).mpr z))
            have hst2 := rv_stop (len := s9_1 111 2) (P := isD (s9_1 112)) (p := p) (g := mgG (s9_1 111 2) (s9_1 112)) (v := v) (fun z => b2_z zc55 ((mbtD h1 hp1.2.2).mpr z))
            have e9 : up s9_1 111 4 p = mn2 σ := by unfold mn2; rw [← eg_1, ← hrr, hst1]
            have e8 : v = mnv (mn1 σ) := by rw [← eg_1]; exact hst2.symm.trans hrv
            refine j_iload hx d_Mo_number_106 4 rfl ?_
            refine j_iload_n hx d_Mo_number_108 rfl 1 rfl ?_
            refine j_iload_n hx d_Mo_number_109 rfl 2 rfl ?_
            refine j_callSi hx (c_Mo_in hG (up s9_1 111 4 p) v lo hi) mo_Mo_in t_1582 t_1581 (by decide) rfl rfl (Nat.le_of_ble_eq_true rfl) d_Mo_number_110 ?_
            refine j_if_ne (tgt := 122) hx d_Mo_number_113 (by decide) (fun zc113 => ?_) (fun zc113 => ?_)
            · skip
              obtain ⟨s9_2, eg_2⟩ : ∃ z : St, z = mn3 σ lo hi := ⟨_, rfl⟩
              refine J.to (σ' := s9_2) (by rw [eg_2]; rw [e9]; rw [e8] at zc113; unfold mn3; first | (rw [if_pos zc113]; done) | (rw [if_neg zc113]; done)) rfl ?_
              refine j_aload_n hx d_Mo_number_122 rfl 0 rfl ?_
              refine j_get hx ck_Mo 5 (by decide) t_1423 (by decide) (sh_111 _ _) rfl d_Mo_number_123 ?_
              refine j_if_ne (tgt := 134) hx d_Mo_number_126 (by decide) (fun zc126 => ?_) (fun zc126 => ?_)
              · skip
                refine j_iconst (v := 0) hx d_Mo_number_134 (by decide) ?_
                exact j_iret hx hq rfl d_Mo_number_135 (by first | (unfold mnV; rw [eg_2] at zc126; rw [if_pos zc4]; first | (rw [e8]; exact (if_pos zc126).symm) | exact (if_neg zc126).symm) | fail) (by first | (unfold mnS; rw [eg_2]; exact (if_pos zc4).symm) | fail)
              · skip
                refine j_iload hx d_Mo_number_129 4 rfl ?_
                refine j_goto (tgt := 135) hx d_Mo_number_131 (by decide) ?_
                exact j_iret hx hq rfl d_Mo_number_135 (by first | (unfold mnV; rw [eg_2] at zc126; rw [if_pos zc4]; first | (rw [e8]; exact (if_pos zc126).symm) | exact (if_neg zc126).symm) | fail) (by first | (unfold mnS; rw [eg_2]; exact (if_pos zc4).symm) | fail)
            · skip
              refine j_aload_n hx d_Mo_number_116 rfl 0 rfl ?_
              refine j_iconst (v := 2) hx d_Mo_number_117 (by decide) ?_
              refine j_iload_n hx d_Mo_number_118 rfl 3 rfl ?_
              refine j_callVv hx (c_Mo_wrong hG (up s9_1 111 4 p) 2 ((mbl σ) 111 4)) mo_Mo_wrong mv_Mo_wrong t_1622 (by decide) rfl (by decide) (sh_111 _ _) rfl rfl (Nat.le_of_ble_eq_true rfl) d_Mo_number_119 ?_
              obtain ⟨s9_2, eg_2⟩ : ∃ z : St, z = mn3 σ lo hi := ⟨_, rfl⟩
              refine J.to (σ' := s9_2) (by rw [eg_2]; rw [e9]; rw [e8] at zc113; unfold mn3; first | (rw [if_pos zc113]; done) | (rw [if_neg zc113]; done)) rfl ?_
              refine j_aload_n hx d_Mo_number_122 rfl 0 rfl ?_
              refine j_get hx ck_Mo 5 (by decide) t_1423 (by decide) (sh_111 _ _) rfl d_Mo_number_123 ?_
              refine j_if_ne (tgt := 134) hx d_Mo_number_126 (by decide) (fun zc126 => ?_) (fun zc126 => ?_)
              · skip
                refine j_iconst (v := 0) hx d_Mo_number_134 (by decide) ?_
                exact j_iret hx hq rfl d_Mo_number_135 (by first | (unfold mnV; rw [eg_2] at zc126; rw [if_pos zc4]; first | (rw [e8]; exact (if_pos zc126).symm) | exact (if_neg zc126).symm) | fail) (by first | (unfold mnS; rw [eg_2]; exact (if_pos zc4).symm) | fail)
              · skip
                refine j_iload hx d_Mo_number_129 4 rfl ?_
                refine j_goto (tgt := 135) hx d_Mo_number_131 (by decide) ?_
                exact j_iret hx hq rfl d_Mo_number_135 (by first | (unfold mnV; rw [eg_2] at zc126; rw [if_pos zc4]; first | (rw [e8]; exact (if_pos zc126).symm) | exact (if_neg zc126).symm) | fail) (by first | (unfold mnS; rw [eg_2]; exact (if_pos zc4).symm) | fail)
          · skip
            rw [e2, e3, e4] at zc55
            have hlt := (mbtD h1 hp1.2.2).mp (b2_nz zc55)
            refine j_bipush (v := 10) hx d_Mo_number_58 (by decide) ?_
            refine j_iload hx d_Mo_number_60 4 rfl ?_
            refine j_imul hx d_Mo_number_62 ?_
            refine j_aload_n hx d_Mo_number_63 rfl 0 rfl ?_
            refine j_aload_n hx d_Mo_number_64 rfl 0 rfl ?_
            refine j_get hx ck_Mo 4 (by decide) t_1422 (by decide) (sh_111 _ _) rfl d_Mo_number_65 ?_
            refine j_callVi hx (c_Mo_byteAt hG (up s9_1 111 4 p) ((up s9_1 111 4 p) 111 4) (by rw [e4]; exact h1) (by rw [e2]; exact hp1.2.2)) mo_Mo_byteAt mv_Mo_byteAt t_1596 (by decide) rfl (by decide) (sh_111 _ _) rfl rfl (Nat.le_of_ble_eq_true rfl) d_Mo_number_68 ?_
            refine j_iadd hx d_Mo_number_71 ?_
            refine j_bipush (v := 48) hx d_Mo_number_72 (by decide) ?_
            refine j_isub hx d_Mo_number_74 ?_
            refine j_istore hx [(4, .int (((10 * v) + (mbt ((up s9_1 111 4 p) 111 2) ((up s9_1 111 4 p) 112) ((up s9_1 111 4 p) 111 4))) - 48)), (0, .ref (G.1 111)), (1, .int lo), (2, .int hi), (3, .int ((mbl σ) 111 4))] d_Mo_number_75 (by decide) rfl ?_
            refine j_iload hx d_Mo_number_77 0 rfl ?_
            refine j_ldc (v := 100000) hx t_1640 d_Mo_number_79 ?_
            refine j_icmp_le (tgt := 89) hx d_Mo_number_81 (by decide) (fun zc81 => ?_) (fun zc81 => ?_)
            · skip
              refine j_iload hx d_Mo_number_89 0 rfl ?_
              refine j_istore hx [(4, .int (((10 * v) + (mbt ((up s9_1 111 4 p) 111 2) ((up s9_1 111 4 p) 112) ((up s9_1 111 4 p) 111 4))) - 48)), (0, .ref (G.1 111)), (1, .int lo), (2, .int hi), (3, .int ((mbl σ) 111 4))] d_Mo_number_91 (by decide) rfl ?_
              refine j_aload_n hx d_Mo_number_93 rfl 1 rfl ?_
              refine j_dup hx d_Mo_number_94 rfl ?_
              refine j_get hx ck_Mo 4 (by decide) t_1422 (by decide) (sh_111 _ _) rfl d_Mo_number_95 ?_
              refine j_iconst (v := 1) hx d_Mo_number_98 (by decide) ?_
              refine j_iadd hx d_Mo_number_99 ?_
              refine j_put hx ck_Mo 4 (by decide) t_1422 (by decide) (sh_111 _ _) rfl (Nat.le_of_ble_eq_true rfl) (sh_111 _ _) d_Mo_number_100 ?_
              refine j_goto (tgt := 44) hx d_Mo_number_103 (by decide) ?_
              refine J.lsub (ls' := [(0, .ref (G.1 111)), (1, .int lo), (2, .int hi), (3, .int ((mbl σ) 111 4)), (4, .int (((10 * v) + (mbt ((up s9_1 111 4 p) 111 2) ((up s9_1 111 4 p) 112) ((up s9_1 111 4 p) 111 4))) - 48))]) [1, 2, 3, 4, 0] rfl ?_
              refine J.to ?_ ?_ (ih44 _ ?_ (mgG (s9_1 111 2) (s9_1 112) v p) (p + 1) (by have := i_s1 hlt.1; omega) (by have := i_s1 hlt.1; have h9 := hlt.1; rw [i_lt] at h9; omega) ((rn_go hlt.1 hlt.2).symm.trans hrr) ((rv_go hlt.1 hlt.2).symm.trans hrv) rfl)
              · first | (rw [up_up, e4]) | fail
              · first | (rw [e2, e3, e4] at zc81; unfold mgG; first | (rw [if_neg (i_lelt zc81), e2, e3, e4]; done) | (rw [if_pos (i_nle zc81)]; done)) | fail
              · first | (exact rn_dec hlt.1 hm44) | fail
            · skip
              refine j_ldc (v := 100000) hx t_1640 d_Mo_number_84 ?_
              refine j_goto (tgt := 91) hx d_Mo_number_86 (by decide) ?_
              refine j_istore hx [(4, .int 100000), (0, .ref (G.1 111)), (1, .int lo), (2, .int hi), (3, .int ((mbl σ) 111 4))] d_Mo_number_91 (by decide) rfl ?_
              refine j_aload_n hx d_Mo_number_93 rfl 1 rfl ?_
              refine j_dup hx d_Mo_number_94 rfl ?_
              refine j_get hx ck_Mo 4 (by decide) t_1422 (by decide) (sh_111 _ _) rfl d_Mo_number_95 ?_
              refine j_iconst (v := 1) hx d_Mo_number_98 (by decide) ?_
              refine j_iadd hx d_Mo_number_99 ?_
              refine j_put hx ck_Mo 4 (by decide) t_1422 (by decide) (sh_111 _ _) rfl (Nat.le_of_ble_eq_true rfl) (sh_111 _ _) d_Mo_number_100 ?_
              refine j_goto (tgt := 44) hx d_Mo_number_103 (by decide) ?_
              refine J.lsub (ls' := [(0, .ref (G.1 111)), (1, .int lo), (2, .int hi), (3, .int ((mbl σ) 111 4)), (4, .int 100000)]) [1, 2, 3, 4, 0] rfl ?_
              refine J.to ?_ ?_ (ih44 _ ?_ (mgG (s9_1 111 2) (s9_1 112) v p) (p + 1) (by have := i_s1 hlt.1; omega) (by have := i_s1 hlt.1; have h9 := hlt.1; rw [i_lt] at h9; omega) ((rn_go hlt.1 hlt.2).symm.trans hrr) ((rv_go hlt.1 hlt.2).symm.trans hrv) rfl)
              · first | (rw [up_up, e4]) | fail
              · first | (rw [e2, e3, e4] at zc81; unfold mgG; first | (rw [if_neg (i_lelt zc81), e2, e3, e4]; done) | (rw [if_pos (i_nle zc81)]; done)) | fail
              · first | (exact rn_dec hlt.1 hm44) | fail
      refine J.lsub (ls' := [(0, .ref (G.1 111)), (1, .int lo), (2, .int hi), (3, .int ((mbl σ) 111 4)), (4, .int 0)]) [2, 3, 4, 1, 0] rfl ?_
      refine J.to ?_ ?_ (hl44 _ 0 (s9_1 111 4) hp1.1 hp1.2.1 rfl rfl rfl)
      · first | (exact up_id.symm) | fail
      · first | (rfl) | fail
  · skip
    refine j_iconst (v := 0) hx d_Mo_number_7 (by decide) ?_
    exact j_iret hx hq rfl d_Mo_number_8 (by first | (unfold mnV; exact (if_neg zc4).symm) | fail) (by first | (unfold mnS; exact (if_neg zc4).symm) | fail)

set_option maxRecDepth 20000 in
set_option maxHeartbeats 600000 in
theorem c_Mo_wordHere {l : Launch} {G : Gz} (hG : zI G) (σ : St) (hp : pB σ) : MI l G y_Mo_wordHere prog_14_method_16_code 3 .int 3 [.ref (G.1 111)] σ (mwv (mbl σ)) (mbl σ) := by
  refine MI.of hG (by decide) (Nat.le_of_ble_eq_true rfl) (fun X hx hq => ?_)
  show J l G X 3 σ 0 [(0, .ref (G.1 111))] []
  refine j_aload_n hx d_Mo_wordHere_0 rfl 0 rfl ?_
  refine j_callVv hx (c_Mo_blanks hG σ (by exact hp)) mo_Mo_blanks mv_Mo_blanks t_1592 (by decide) rfl (by decide) (sh_111 _ _) rfl rfl (Nat.le_of_ble_eq_true rfl) d_Mo_wordHere_1 ?_
  refine j_iconst (v := 0) hx d_Mo_wordHere_4 (by decide) ?_
  refine j_istore_n hx [(1, .int 0), (0, .ref (G.1 111))] d_Mo_wordHere_5 rfl (by decide) rfl ?_
  refine j_iconst (v := 0) hx d_Mo_wordHere_6 (by decide) ?_
  refine j_istore_n hx [(2, .int 0), (1, .int 0), (0, .ref (G.1 111))] d_Mo_wordHere_7 rfl (by decide) rfl ?_
  have hl8 : ∀ (N9 : Nat) (i : Nat), (i ≤ wlen (mbl σ 111 2) (mbl σ 112) (mbl σ 111 4)) → wlen (mbl σ 111 2) (mbl σ 112) (mbl σ 111 4) - i = N9 → J l G X 3 (mbl σ) 8 [(0, .ref (G.1 111)), (1, .int (wrd (mbl σ 111 2) (mbl σ 112) (mbl σ 111 4) i)), (2, .int (nI i))] [] := by
    intro N9
    induction N9 using Nat.strongRecOn with
    | _ N9 ih8 =>
      intro i hi hm8
      have hpb := (mbl_p hp).1
      have hwl := wlen_le (f := mbl σ 112) hpb.2.1
      have ea : (mbl σ 111 4 + nI i).toInt = (mbl σ 111 4).toInt + i := i_add rfl (i_nI (by have := hpb.2.2; have := hpb.1; omega)) (by have := hpb.1; omega) (by have := hpb.2.2; omega)
      have hpb1 := hpb.1
      have hpb2 := hpb.2.2
      refine j_aload_n hx d_Mo_wordHere_8 rfl 0 rfl ?_
      refine j_aload_n hx d_Mo_wordHere_9 rfl 0 rfl ?_
      refine j_get hx ck_Mo 4 (by decide) t_1422 (by decide) (sh_111 _ _) rfl d_Mo_wordHere_10 ?_
      refine j_iload_n hx d_Mo_wordHere_13 rfl 2 rfl ?_
      refine j_iadd hx d_Mo_wordHere_14 ?_
      refine j_callVi hx (c_Mo_byteAt hG (mbl σ) (((mbl σ) 111 4) + (nI i)) (by rw [ea]; omega) (by exact hpb.2.2)) mo_Mo_byteAt mv_Mo_byteAt t_1596 (by decide) rfl (by decide) (sh_111 _ _) rfl rfl (Nat.le_of_ble_eq_true rfl) d_Mo_wordHere_15 ?_
      refine j_callSi hx (c_Mo_isSmall hG (mbl σ) (mbt ((mbl σ) 111 2) ((mbl σ) 112) (((mbl σ) 111 4) + (nI i)))) mo_Mo_isSmall t_1617 t_1616 (by decide) rfl rfl (Nat.le_of_ble_eq_true rfl) d_Mo_wordHere_18 ?_
      refine j_if_eq (tgt := 61) hx d_Mo_wordHere_21 (by decide) (fun zc21 => ?_) (fun zc21 => ?_)
      · skip
        refine j_iload_n hx d_Mo_wordHere_61 rfl 2 rfl ?_
        refine j_bipush (v := 6) hx d_Mo_wordHere_62 (by decide) ?_
        refine j_icmp_le (tgt := 71) hx d_Mo_wordHere_64 (by decide) (fun zc64 => ?_) (fun zc64 => ?_)
        · skip
          refine j_iload_n hx d_Mo_wordHere_71 rfl 1 rfl ?_
          exact j_iret hx hq rfl d_Mo_wordHere_72 (by first | (have hL : i = wlen (mbl σ 111 2) (mbl σ 112) (mbl σ 111 4) := (by have h9 := mt (wlen_is hpb.1 hpb.2.1 hpb.2.2 hi).mpr (b2_z zc21); omega); subst hL; unfold mwv; first | exact (if_pos (i_nle zc64)).symm | exact (if_neg (i_lelt zc64)).symm) | fail) (by first | (first | rfl | (simp only [zc21, zc64]; done) | (simp [zc21, zc64]; done)) | fail)
        · skip
          refine j_iconst (v := (-1)) hx d_Mo_wordHere_67 (by decide) ?_
          refine j_goto (tgt := 72) hx d_Mo_wordHere_68 (by decide) ?_
          exact j_iret hx hq rfl d_Mo_wordHere_72 (by first | (have hL : i = wlen (mbl σ 111 2) (mbl σ 112) (mbl σ 111 4) := (by have h9 := mt (wlen_is hpb.1 hpb.2.1 hpb.2.2 hi).mpr (b2_z zc21); omega); subst hL; unfold mwv; first | exact (if_pos (i_nle zc64)).symm | exact (if_neg (i_lelt zc64)).symm) | fail) (by first | (first | rfl | (simp only [zc21, zc64]; done) | (simp [zc21, zc64]; done)) | fail)
      · skip
        refine j_iload_n hx d_Mo_wordHere_24 rfl 2 rfl ?_
        refine j_bipush (v := 6) hx d_Mo_wordHere_25 (by decide) ?_
        refine j_icmp_ge (tgt := 53) hx d_Mo_wordHere_27 (by decide) (fun zc27 => ?_) (fun zc27 => ?_)
        · skip
          refine j_iload_n hx d_Mo_wordHere_53 rfl 1 rfl ?_
          refine j_istore_n hx [(1, .int (wrd (mbl σ 111 2) (mbl σ 112) (mbl σ 111 4) i)), (0, .ref (G.1 111)), (2, .int (nI i))] d_Mo_wordHere_54 rfl (by decide) rfl ?_
          refine j_iinc hx [(2, .int ((nI i) + 1)), (1, .int (wrd (mbl σ 111 2) (mbl σ 112) (mbl σ 111 4) i)), (0, .ref (G.1 111))] d_Mo_wordHere_55 2 rfl rfl (by decide) rfl ?_
          refine j_goto (tgt := 8) hx d_Mo_wordHere_58 (by decide) ?_
          refine J.lsub (ls' := [(0, .ref (G.1 111)), (1, .int (wrd (mbl σ 111 2) (mbl σ 112) (mbl σ 111 4) i)), (2, .int ((nI i) + 1))]) [2, 1, 0] rfl ?_
          refine J.to ?_ ?_ (ih8 _ ?_ (i + 1) (by have := (wlen_is hpb.1 hpb.2.1 hpb.2.2 hi).mp (b2_nz zc21); omega) rfl)
          · first | (rfl) | fail
          · first | (simp only [nI_s]; first | (rw [wrd_1 (show i < 6 by have h6 : nI i < nI 6 := i_nle zc27; rw [znI_lt (by omega) (by omega)] at h6; exact h6)]; done) | (rw [wrd_2 (show ¬ i < 6 by have h6 : nI 6 ≤ nI i := zc27; rw [znI_le (by omega) (by omega)] at h6; omega)]; done)) | fail
          · first | (have := (wlen_is hpb.1 hpb.2.1 hpb.2.2 hi).mp (b2_nz zc21); omega) | fail
        · skip
          refine j_bipush (v := 27) hx d_Mo_wordHere_30 (by decide) ?_
          refine j_iload_n hx d_Mo_wordHere_32 rfl 1 rfl ?_
          refine j_imul hx d_Mo_wordHere_33 ?_
          refine j_aload_n hx d_Mo_wordHere_34 rfl 0 rfl ?_
          refine j_aload_n hx d_Mo_wordHere_35 rfl 0 rfl ?_
          refine j_get hx ck_Mo 4 (by decide) t_1422 (by decide) (sh_111 _ _) rfl d_Mo_wordHere_36 ?_
          refine j_iload_n hx d_Mo_wordHere_39 rfl 2 rfl ?_
          refine j_iadd hx d_Mo_wordHere_40 ?_
          refine j_callVi hx (c_Mo_byteAt hG (mbl σ) (((mbl σ) 111 4) + (nI i)) (by rw [ea]; omega) (by exact hpb.2.2)) mo_Mo_byteAt mv_Mo_byteAt t_1596 (by decide) rfl (by decide) (sh_111 _ _) rfl rfl (Nat.le_of_ble_eq_true rfl) d_Mo_wordHere_41 ?_
          refine j_iadd hx d_Mo_wordHere_44 ?_
          refine j_bipush (v := 97) hx d_Mo_wordHere_45 (by decide) ?_
          refine j_isub hx d_Mo_wordHere_47 ?_
          refine j_iconst (v := 1) hx d_Mo_wordHere_48 (by decide) ?_
          refine j_iadd hx d_Mo_wordHere_49 ?_
          refine j_goto (tgt := 54) hx d_Mo_wordHere_50 (by decide) ?_
          refine j_istore_n hx [(1, .int ((((27 * (wrd (mbl σ 111 2) (mbl σ 112) (mbl σ 111 4) i)) + (mbt ((mbl σ) 111 2) ((mbl σ) 112) (((mbl σ) 111 4) + (nI i)))) - 97) + 1)), (0, .ref (G.1 111)), (2, .int (nI i))] d_Mo_wordHere_54 rfl (by decide) rfl ?_
          refine j_iinc hx [(2, .int ((nI i) + 1)), (1, .int ((((27 * (wrd (mbl σ 111 2) (mbl σ 112) (mbl σ 111 4) i)) + (mbt ((mbl σ) 111 2) ((mbl σ) 112) (((mbl σ) 111 4) + (nI i)))) - 97) + 1)), (0, .ref (G.1 111))] d_Mo_wordHere_55 2 rfl rfl (by decide) rfl ?_
          refine j_goto (tgt := 8) hx d_Mo_wordHere_58 (by decide) ?_
          refine J.lsub (ls' := [(0, .ref (G.1 111)), (1, .int ((((27 * (wrd (mbl σ 111 2) (mbl σ 112) (mbl σ 111 4) i)) + (mbt ((mbl σ) 111 2) ((mbl σ) 112) (((mbl σ) 111 4) + (nI i)))) - 97) + 1)), (2, .int ((nI i) + 1))]) [2, 1, 0] rfl ?_
          refine J.to ?_ ?_ (ih8 _ ?_ (i + 1) (by have := (wlen_is hpb.1 hpb.2.1 hpb.2.2 hi).mp (b2_nz zc21); omega) rfl)
          · first | (rfl) | fail
          · first | (simp only [nI_s]; first | (rw [wrd_1 (show i < 6 by have h6 : nI i < nI 6 := i_nle zc27; rw [znI_lt (by omega) (by omega)] at h6; exact h6)]; done) | (rw [wrd_2 (show ¬ i < 6 by have h6 : nI 6 ≤ nI i := zc27; rw [znI_le (by omega) (by omega)] at h6; omega)]; done)) | fail
          · first | (have := (wlen_is hpb.1 hpb.2.1 hpb.2.2 hi).mp (b2_nz zc21); omega) | fail
  refine J.lsub (ls' := [(0, .ref (G.1 111)), (1, .int 0), (2, .int 0)]) [2, 1, 0] rfl ?_
  refine J.to ?_ ?_ (hl8 _ 0 (Nat.zero_le _) rfl)
  · first | (rfl) | fail
  · first | (rfl) | fail

set_option maxRecDepth 20000 in
set_option maxHeartbeats 600000 in
theorem c_Mo_six {l : Launch} {G : Gz} (hG : zI G) (σ : St) (wa : Int32) (wb : Int32) (wc : Int32) (wd : Int32) (we : Int32) (wf : Int32) : MI l G y_Mo_six prog_14_method_17_code 7 .int 1 [.int wa, .int wb, .int wc, .int wd, .int we, .int wf] σ (m6 wa wb wc wd we wf) σ := by
  refine MI.of hG (by decide) (Nat.le_of_ble_eq_true rfl) (fun X hx hq => ?_)
  show J l G X 7 σ 0 [(0, .int wa), (1, .int wb), (2, .int wc), (3, .int wd), (4, .int we), (5, .int wf)] []
  refine j_bipush (v := 27) hx d_Mo_six_0 (by decide) ?_
  refine j_bipush (v := 27) hx d_Mo_six_2 (by decide) ?_
  refine j_iload_n hx d_Mo_six_4 rfl 0 rfl ?_
  refine j_imul hx d_Mo_six_5 ?_
  refine j_iload_n hx d_Mo_six_6 rfl 1 rfl ?_
  refine j_iadd hx d_Mo_six_7 ?_
  refine j_imul hx d_Mo_six_8 ?_
  refine j_iload_n hx d_Mo_six_9 rfl 2 rfl ?_
  refine j_iadd hx d_Mo_six_10 ?_
  refine j_istore hx [(6, .int ((27 * ((27 * wa) + wb)) + wc)), (0, .int wa), (1, .int wb), (2, .int wc), (3, .int wd), (4, .int we), (5, .int wf)] d_Mo_six_11 (by decide) rfl ?_
  refine j_iload_n hx d_Mo_six_13 rfl 4 rfl ?_
  refine j_if_ne (tgt := 22) hx d_Mo_six_14 (by decide) (fun zc14 => ?_) (fun zc14 => ?_)
  · skip
    refine j_bipush (v := 27) hx d_Mo_six_22 (by decide) ?_
    refine j_iload hx d_Mo_six_24 0 rfl ?_
    refine j_imul hx d_Mo_six_26 ?_
    refine j_iload_n hx d_Mo_six_27 rfl 4 rfl ?_
    refine j_iadd hx d_Mo_six_28 ?_
    refine j_istore hx [(6, .int ((27 * ((27 * ((27 * wa) + wb)) + wc)) + wd)), (0, .int wa), (1, .int wb), (2, .int wc), (3, .int wd), (4, .int we), (5, .int wf)] d_Mo_six_29 (by decide) rfl ?_
    refine j_iload hx d_Mo_six_31 5 rfl ?_
    refine j_if_ne (tgt := 41) hx d_Mo_six_33 (by decide) (fun zc33 => ?_) (fun zc33 => ?_)
    · skip
      refine j_bipush (v := 27) hx d_Mo_six_41 (by decide) ?_
      refine j_iload hx d_Mo_six_43 0 rfl ?_
      refine j_imul hx d_Mo_six_45 ?_
      refine j_iload hx d_Mo_six_46 5 rfl ?_
      refine j_iadd hx d_Mo_six_48 ?_
      refine j_istore hx [(6, .int ((27 * ((27 * ((27 * ((27 * wa) + wb)) + wc)) + wd)) + we)), (0, .int wa), (1, .int wb), (2, .int wc), (3, .int wd), (4, .int we), (5, .int wf)] d_Mo_six_49 (by decide) rfl ?_
      refine j_iload hx d_Mo_six_51 6 rfl ?_
      refine j_if_ne (tgt := 61) hx d_Mo_six_53 (by decide) (fun zc53 => ?_) (fun zc53 => ?_)
      · skip
        refine j_bipush (v := 27) hx d_Mo_six_61 (by decide) ?_
        refine j_iload hx d_Mo_six_63 0 rfl ?_
        refine j_imul hx d_Mo_six_65 ?_
        refine j_iload hx d_Mo_six_66 6 rfl ?_
        refine j_iadd hx d_Mo_six_68 ?_
        exact j_iret hx hq rfl d_Mo_six_69 (by first | (unfold m6; simp [zc14, zc33, zc53]) | fail) (by first | (first | rfl | (simp only [zc14, zc33, zc53]; done) | (simp [zc14, zc33, zc53]; done)) | fail)
      · skip
        refine j_iload hx d_Mo_six_56 0 rfl ?_
        refine j_goto (tgt := 69) hx d_Mo_six_58 (by decide) ?_
        exact j_iret hx hq rfl d_Mo_six_69 (by first | (unfold m6; simp [zc14, zc33, zc53]) | fail) (by first | (first | rfl | (simp only [zc14, zc33, zc53]; done) | (simp [zc14, zc33, zc53]; done)) | fail)
    · skip
      refine j_iload hx d_Mo_six_36 0 rfl ?_
      refine j_goto (tgt := 49) hx d_Mo_six_38 (by decide) ?_
      refine j_istore hx [(6, .int ((27 * ((27 * ((27 * wa) + wb)) + wc)) + wd)), (0, .int wa), (1, .int wb), (2, .int wc), (3, .int wd), (4, .int we), (5, .int wf)] d_Mo_six_49 (by decide) rfl ?_
      refine j_iload hx d_Mo_six_51 6 rfl ?_
      refine j_if_ne (tgt := 61) hx d_Mo_six_53 (by decide) (fun zc53 => ?_) (fun zc53 => ?_)
      · skip
        refine j_bipush (v := 27) hx d_Mo_six_61 (by decide) ?_
        refine j_iload hx d_Mo_six_63 0 rfl ?_
        refine j_imul hx d_Mo_six_65 ?_
        refine j_iload hx d_Mo_six_66 6 rfl ?_
        refine j_iadd hx d_Mo_six_68 ?_
        exact j_iret hx hq rfl d_Mo_six_69 (by first | (unfold m6; simp [zc14, zc33, zc53]) | fail) (by first | (first | rfl | (simp only [zc14, zc33, zc53]; done) | (simp [zc14, zc33, zc53]; done)) | fail)
      · skip
        refine j_iload hx d_Mo_six_56 0 rfl ?_
        refine j_goto (tgt := 69) hx d_Mo_six_58 (by decide) ?_
        exact j_iret hx hq rfl d_Mo_six_69 (by first | (unfold m6; simp [zc14, zc33, zc53]) | fail) (by first | (first | rfl | (simp only [zc14, zc33, zc53]; done) | (simp [zc14, zc33, zc53]; done)) | fail)
  · skip
    refine j_iload hx d_Mo_six_17 0 rfl ?_
    refine j_goto (tgt := 29) hx d_Mo_six_19 (by decide) ?_
    refine j_istore hx [(6, .int ((27 * ((27 * wa) + wb)) + wc)), (0, .int wa), (1, .int wb), (2, .int wc), (3, .int wd), (4, .int we), (5, .int wf)] d_Mo_six_29 (by decide) rfl ?_
    refine j_iload hx d_Mo_six_31 5 rfl ?_
    refine j_if_ne (tgt := 41) hx d_Mo_six_33 (by decide) (fun zc33 => ?_) (fun zc33 => ?_)
    · skip
      refine j_bipush (v := 27) hx d_Mo_six_41 (by decide) ?_
      refine j_iload hx d_Mo_six_43 0 rfl ?_
      refine j_imul hx d_Mo_six_45 ?_
      refine j_iload hx d_Mo_six_46 5 rfl ?_
      refine j_iadd hx d_Mo_six_48 ?_
      refine j_istore hx [(6, .int ((27 * ((27 * ((27 * wa) + wb)) + wc)) + we)), (0, .int wa), (1, .int wb), (2, .int wc), (3, .int wd), (4, .int we), (5, .int wf)] d_Mo_six_49 (by decide) rfl ?_
      refine j_iload hx d_Mo_six_51 6 rfl ?_
      refine j_if_ne (tgt := 61) hx d_Mo_six_53 (by decide) (fun zc53 => ?_) (fun zc53 => ?_)
      · skip
        refine j_bipush (v := 27) hx d_Mo_six_61 (by decide) ?_
        refine j_iload hx d_Mo_six_63 0 rfl ?_
        refine j_imul hx d_Mo_six_65 ?_
        refine j_iload hx d_Mo_six_66 6 rfl ?_
        refine j_iadd hx d_Mo_six_68 ?_
        exact j_iret hx hq rfl d_Mo_six_69 (by first | (unfold m6; simp [zc14, zc33, zc53]) | fail) (by first | (first | rfl | (simp only [zc14, zc33, zc53]; done) | (simp [zc14, zc33, zc53]; done)) | fail)
      · skip
        refine j_iload hx d_Mo_six_56 0 rfl ?_
        refine j_goto (tgt := 69) hx d_Mo_six_58 (by decide) ?_
        exact j_iret hx hq rfl d_Mo_six_69 (by first | (unfold m6; simp [zc14, zc33, zc53]) | fail) (by first | (first | rfl | (simp only [zc14, zc33, zc53]; done) | (simp [zc14, zc33, zc53]; done)) | fail)
    · skip
      refine j_iload hx d_Mo_six_36 0 rfl ?_
      refine j_goto (tgt := 49) hx d_Mo_six_38 (by decide) ?_
      refine j_istore hx [(6, .int ((27 * ((27 * wa) + wb)) + wc)), (0, .int wa), (1, .int wb), (2, .int wc), (3, .int wd), (4, .int we), (5, .int wf)] d_Mo_six_49 (by decide) rfl ?_
      refine j_iload hx d_Mo_six_51 6 rfl ?_
      refine j_if_ne (tgt := 61) hx d_Mo_six_53 (by decide) (fun zc53 => ?_) (fun zc53 => ?_)
      · skip
        refine j_bipush (v := 27) hx d_Mo_six_61 (by decide) ?_
        refine j_iload hx d_Mo_six_63 0 rfl ?_
        refine j_imul hx d_Mo_six_65 ?_
        refine j_iload hx d_Mo_six_66 6 rfl ?_
        refine j_iadd hx d_Mo_six_68 ?_
        exact j_iret hx hq rfl d_Mo_six_69 (by first | (unfold m6; simp [zc14, zc33, zc53]) | fail) (by first | (first | rfl | (simp only [zc14, zc33, zc53]; done) | (simp [zc14, zc33, zc53]; done)) | fail)
      · skip
        refine j_iload hx d_Mo_six_56 0 rfl ?_
        refine j_goto (tgt := 69) hx d_Mo_six_58 (by decide) ?_
        exact j_iret hx hq rfl d_Mo_six_69 (by first | (unfold m6; simp [zc14, zc33, zc53]) | fail) (by first | (first | rfl | (simp only [zc14, zc33, zc53]; done) | (simp [zc14, zc33, zc53]; done)) | fail)

set_option maxRecDepth 20000 in
set_option maxHeartbeats 600000 in
theorem c_Mo_isWord {l : Launch} {G : Gz} (hG : zI G) (σ : St) (wa : Int32) (wb : Int32) (wc : Int32) (wd : Int32) (we : Int32) (wf : Int32) (hp : pB σ) : MI l G y_Mo_isWord prog_14_method_18_code 7 .boolean 4 [.ref (G.1 111), .int wa, .int wb, .int wc, .int wd, .int we, .int wf] σ (b2 (mIs σ (m6 wa wb wc wd we wf))) (mbz σ) := by
  refine MI.of hG (by decide) (Nat.le_of_ble_eq_true rfl) (fun X hx hq => ?_)
  show J l G X 7 σ 0 [(0, .ref (G.1 111)), (1, .int wa), (2, .int wb), (3, .int wc), (4, .int wd), (5, .int we), (6, .int wf)] []
  refine j_aload_n hx d_Mo_isWord_0 rfl 0 rfl ?_
  refine j_get hx ck_Mo 5 (by decide) t_1423 (by decide) (sh_111 _ _) rfl d_Mo_isWord_1 ?_
  refine j_if_ne (tgt := 30) hx d_Mo_isWord_4 (by decide) (fun zc4 => ?_) (fun zc4 => ?_)
  · skip
    refine j_iconst (v := 0) hx d_Mo_isWord_30 (by decide) ?_
    exact j_iret hx hq rfl d_Mo_isWord_31 (by first | (first | exact (b2_t (p := mIs σ (m6 wa wb wc wd we wf)) ⟨zc4, zc23⟩).symm | exact (b2_f (p := mIs σ (m6 wa wb wc wd we wf)) (fun z => zc23 z.2)).symm | exact (b2_f (p := mIs σ (m6 wa wb wc wd we wf)) (fun z => zc4 z.1)).symm) | fail) (by first | (unfold mbz; first | exact (if_pos zc4).symm | exact (if_neg zc4).symm) | fail)
  · skip
    refine j_aload_n hx d_Mo_isWord_7 rfl 0 rfl ?_
    refine j_callVi hx (c_Mo_wordHere hG σ (by exact hp)) mo_Mo_wordHere mv_Mo_wordHere t_1612 (by decide) rfl (by decide) (sh_111 _ _) rfl rfl (Nat.le_of_ble_eq_true rfl) d_Mo_isWord_8 ?_
    refine j_iload_n hx d_Mo_isWord_11 rfl 1 rfl ?_
    refine j_iload_n hx d_Mo_isWord_12 rfl 2 rfl ?_
    refine j_iload_n hx d_Mo_isWord_13 rfl 3 rfl ?_
    refine j_iload hx d_Mo_isWord_14 4 rfl ?_
    refine j_iload hx d_Mo_isWord_16 5 rfl ?_
    refine j_iload hx d_Mo_isWord_18 6 rfl ?_
    refine j_callSi hx (c_Mo_six hG (mbl σ) wa wb wc wd we wf) mo_Mo_six t_1620 t_1619 (by decide) rfl rfl (Nat.le_of_ble_eq_true rfl) d_Mo_isWord_20 ?_
    refine j_icmp_ne (tgt := 30) hx d_Mo_isWord_23 (by decide) (fun zc23 => ?_) (fun zc23 => ?_)
    · skip
      refine j_iconst (v := 0) hx d_Mo_isWord_30 (by decide) ?_
      exact j_iret hx hq rfl d_Mo_isWord_31 (by first | (first | exact (b2_t (p := mIs σ (m6 wa wb wc wd we wf)) ⟨zc4, zc23⟩).symm | exact (b2_f (p := mIs σ (m6 wa wb wc wd we wf)) (fun z => zc23 z.2)).symm | exact (b2_f (p := mIs σ (m6 wa wb wc wd we wf)) (fun z => zc4 z.1)).symm) | fail) (by first | (unfold mbz; first | exact (if_pos zc4).symm | exact (if_neg zc4).symm) | fail)
    · skip
      refine j_iconst (v := 1) hx d_Mo_isWord_26 (by decide) ?_
      refine j_goto (tgt := 31) hx d_Mo_isWord_27 (by decide) ?_
      exact j_iret hx hq rfl d_Mo_isWord_31 (by first | (first | exact (b2_t (p := mIs σ (m6 wa wb wc wd we wf)) ⟨zc4, zc23⟩).symm | exact (b2_f (p := mIs σ (m6 wa wb wc wd we wf)) (fun z => zc23 z.2)).symm | exact (b2_f (p := mIs σ (m6 wa wb wc wd we wf)) (fun z => zc4 z.1)).symm) | fail) (by first | (unfold mbz; first | exact (if_pos zc4).symm | exact (if_neg zc4).symm) | fail)

set_option maxRecDepth 20000 in
set_option maxHeartbeats 600000 in
theorem c_Mo_takes {l : Launch} {G : Gz} (hG : zI G) (σ : St) (wa : Int32) (wb : Int32) (wc : Int32) (wd : Int32) (we : Int32) (wf : Int32) (hp : pB σ) : MI l G y_Mo_takes prog_14_method_20_code 8 .boolean 5 [.ref (G.1 111), .int wa, .int wb, .int wc, .int wd, .int we, .int wf] σ (b2 (mIs σ (m6 wa wb wc wd we wf))) (mtk σ (m6 wa wb wc wd we wf)) := by
  refine MI.of hG (by decide) (Nat.le_of_ble_eq_true rfl) (fun X hx hq => ?_)
  show J l G X 8 σ 0 [(0, .ref (G.1 111)), (1, .int wa), (2, .int wb), (3, .int wc), (4, .int wd), (5, .int we), (6, .int wf)] []
  refine j_aload_n hx d_Mo_takes_0 rfl 0 rfl ?_
  refine j_iload_n hx d_Mo_takes_1 rfl 1 rfl ?_
  refine j_iload_n hx d_Mo_takes_2 rfl 2 rfl ?_
  refine j_iload_n hx d_Mo_takes_3 rfl 3 rfl ?_
  refine j_iload hx d_Mo_takes_4 4 rfl ?_
  refine j_iload hx d_Mo_takes_6 5 rfl ?_
  refine j_iload hx d_Mo_takes_8 6 rfl ?_
  refine j_callVi hx (c_Mo_isWord hG σ wa wb wc wd we wf (by exact hp)) mo_Mo_isWord mv_Mo_isWord t_1608 (by decide) rfl (by decide) (sh_111 _ _) rfl rfl (Nat.le_of_ble_eq_true rfl) d_Mo_takes_10 ?_
  refine j_istore hx [(7, .int (b2 (mIs σ (m6 wa wb wc wd we wf)))), (0, .ref (G.1 111)), (1, .int wa), (2, .int wb), (3, .int wc), (4, .int wd), (5, .int we), (6, .int wf)] d_Mo_takes_13 (by decide) rfl ?_
  refine j_iload hx d_Mo_takes_15 0 rfl ?_
  refine j_if_eq (tgt := 24) hx d_Mo_takes_17 (by decide) (fun zc17 => ?_) (fun zc17 => ?_)
  · skip
    refine j_iload hx d_Mo_takes_24 0 rfl ?_
    exact j_iret hx hq (nz_b2 _) d_Mo_takes_26 (by first | (rfl) | fail) (by first | (unfold mtk; first | exact (if_pos zc17).symm | exact (if_neg zc17).symm) | fail)
  · skip
    refine j_aload_n hx d_Mo_takes_20 rfl 1 rfl ?_
    refine j_callVv hx (c_Mo_skipWord hG (mbz σ) (by exact mbz_p hp)) mo_Mo_skipWord mv_Mo_skipWord t_1629 (by decide) rfl (by decide) (sh_111 _ _) rfl rfl (Nat.le_of_ble_eq_true rfl) d_Mo_takes_21 ?_
    refine j_iload hx d_Mo_takes_24 0 rfl ?_
    exact j_iret hx hq (nz_b2 _) d_Mo_takes_26 (by first | (rfl) | fail) (by first | (unfold mtk; first | exact (if_pos zc17).symm | exact (if_neg zc17).symm) | fail)

set_option maxRecDepth 20000 in
set_option maxHeartbeats 600000 in
theorem c_Mo_sign {l : Launch} {G : Gz} (hG : zI G) (σ : St) (c : Int32) (hp : pB σ) : MV l G y_Mo_sign prog_14_method_21_code 2 3 [.ref (G.1 111), .int c] σ (msg σ c) := by
  refine MV.of hG (by decide) (Nat.le_of_ble_eq_true rfl) (fun X hx hq => ?_)
  show J l G X 2 σ 0 [(0, .ref (G.1 111)), (1, .int c)] []
  refine j_aload_n hx d_Mo_sign_0 rfl 0 rfl ?_
  refine j_get hx ck_Mo 5 (by decide) t_1423 (by decide) (sh_111 _ _) rfl d_Mo_sign_1 ?_
  refine j_if_eq (tgt := 8) hx d_Mo_sign_4 (by decide) (fun zc4 => ?_) (fun zc4 => ?_)
  · skip
    refine j_aload_n hx d_Mo_sign_8 rfl 0 rfl ?_
    refine j_callVv hx (c_Mo_blanks hG σ (by exact hp)) mo_Mo_blanks mv_Mo_blanks t_1592 (by decide) rfl (by decide) (sh_111 _ _) rfl rfl (Nat.le_of_ble_eq_true rfl) d_Mo_sign_9 ?_
    refine j_aload_n hx d_Mo_sign_12 rfl 0 rfl ?_
    refine j_aload_n hx d_Mo_sign_13 rfl 0 rfl ?_
    refine j_get hx ck_Mo 4 (by decide) t_1422 (by decide) (sh_111 _ _) rfl d_Mo_sign_14 ?_
    refine j_callVi hx (c_Mo_byteAt hG (mbl σ) ((mbl σ) 111 4) (by exact (mbl_p hp).1.1) (by exact (mbl_p hp).1.2.2)) mo_Mo_byteAt mv_Mo_byteAt t_1596 (by decide) rfl (by decide) (sh_111 _ _) rfl rfl (Nat.le_of_ble_eq_true rfl) d_Mo_sign_17 ?_
    refine j_iload_n hx d_Mo_sign_20 rfl 1 rfl ?_
    refine j_icmp_ne (tgt := 37) hx d_Mo_sign_21 (by decide) (fun zc21 => ?_) (fun zc21 => ?_)
    · skip
      refine j_aload_n hx d_Mo_sign_37 rfl 0 rfl ?_
      refine j_iconst (v := 1) hx d_Mo_sign_38 (by decide) ?_
      refine j_aload_n hx d_Mo_sign_39 rfl 0 rfl ?_
      refine j_get hx ck_Mo 4 (by decide) t_1422 (by decide) (sh_111 _ _) rfl d_Mo_sign_40 ?_
      refine j_callVv hx (c_Mo_wrong hG (mbl σ) 1 ((mbl σ) 111 4)) mo_Mo_wrong mv_Mo_wrong t_1622 (by decide) rfl (by decide) (sh_111 _ _) rfl rfl (Nat.le_of_ble_eq_true rfl) d_Mo_sign_43 ?_
      exact j_vret hx hq d_Mo_sign_46 (by first | (unfold msg; first | exact (if_neg zc4).symm | (rw [if_pos zc4]; first | exact (if_pos zc21).symm | exact (if_neg zc21).symm)) | fail)
    · skip
      refine j_aload_n hx d_Mo_sign_24 rfl 0 rfl ?_
      refine j_dup hx d_Mo_sign_25 rfl ?_
      refine j_get hx ck_Mo 4 (by decide) t_1422 (by decide) (sh_111 _ _) rfl d_Mo_sign_26 ?_
      refine j_iconst (v := 1) hx d_Mo_sign_29 (by decide) ?_
      refine j_iadd hx d_Mo_sign_30 ?_
      refine j_put hx ck_Mo 4 (by decide) t_1422 (by decide) (sh_111 _ _) rfl (Nat.le_of_ble_eq_true rfl) (sh_111 _ _) d_Mo_sign_31 ?_
      refine j_goto (tgt := 46) hx d_Mo_sign_34 (by decide) ?_
      exact j_vret hx hq d_Mo_sign_46 (by first | (unfold msg; first | exact (if_neg zc4).symm | (rw [if_pos zc4]; first | exact (if_pos zc21).symm | exact (if_neg zc21).symm)) | fail)
  · skip
    exact j_vret hx hq d_Mo_sign_7 (by first | (unfold msg; first | exact (if_neg zc4).symm | (rw [if_pos zc4]; first | exact (if_pos zc21).symm | exact (if_neg zc21).symm)) | fail)

set_option maxRecDepth 20000 in
set_option maxHeartbeats 600000 in
theorem c_Mo_takesSign {l : Launch} {G : Gz} (hG : zI G) (σ : St) (c : Int32) (hp : pB σ) : MI l G y_Mo_takesSign prog_14_method_22_code 3 .boolean 3 [.ref (G.1 111), .int c] σ (b2 (mtP σ c)) (mts σ c) := by
  refine MI.of hG (by decide) (Nat.le_of_ble_eq_true rfl) (fun X hx hq => ?_)
  show J l G X 3 σ 0 [(0, .ref (G.1 111)), (1, .int c)] []
  refine j_aload_n hx d_Mo_takesSign_0 rfl 0 rfl ?_
  refine j_get hx ck_Mo 5 (by decide) t_1423 (by decide) (sh_111 _ _) rfl d_Mo_takesSign_1 ?_
  refine j_if_eq (tgt := 9) hx d_Mo_takesSign_4 (by decide) (fun zc4 => ?_) (fun zc4 => ?_)
  · skip
    refine j_aload_n hx d_Mo_takesSign_9 rfl 0 rfl ?_
    refine j_callVv hx (c_Mo_blanks hG σ (by exact hp)) mo_Mo_blanks mv_Mo_blanks t_1592 (by decide) rfl (by decide) (sh_111 _ _) rfl rfl (Nat.le_of_ble_eq_true rfl) d_Mo_takesSign_10 ?_
    refine j_aload_n hx d_Mo_takesSign_13 rfl 0 rfl ?_
    refine j_aload_n hx d_Mo_takesSign_14 rfl 0 rfl ?_
    refine j_get hx ck_Mo 4 (by decide) t_1422 (by decide) (sh_111 _ _) rfl d_Mo_takesSign_15 ?_
    refine j_callVi hx (c_Mo_byteAt hG (mbl σ) ((mbl σ) 111 4) (by exact (mbl_p hp).1.1) (by exact (mbl_p hp).1.2.2)) mo_Mo_byteAt mv_Mo_byteAt t_1596 (by decide) rfl (by decide) (sh_111 _ _) rfl rfl (Nat.le_of_ble_eq_true rfl) d_Mo_takesSign_18 ?_
    refine j_iload_n hx d_Mo_takesSign_21 rfl 1 rfl ?_
    refine j_icmp_ne (tgt := 29) hx d_Mo_takesSign_22 (by decide) (fun zc22 => ?_) (fun zc22 => ?_)
    · skip
      refine j_iconst (v := 0) hx d_Mo_takesSign_29 (by decide) ?_
      refine j_istore_n hx [(2, .int 0), (0, .ref (G.1 111)), (1, .int c)] d_Mo_takesSign_30 rfl (by decide) rfl ?_
      refine j_iload_n hx d_Mo_takesSign_31 rfl 0 rfl ?_
      refine j_if_eq (tgt := 45) hx d_Mo_takesSign_32 (by decide) (fun _ => ?_) (fun zc32 => absurd (by decide) zc32)
      refine j_iload_n hx d_Mo_takesSign_45 rfl 0 rfl ?_
      exact j_iret hx hq rfl d_Mo_takesSign_46 (by first | (first | exact (b2_t (p := mtP σ c) ⟨zc4, zc22⟩).symm | exact (b2_f (p := mtP σ c) (fun z => zc22 z.2)).symm | exact (b2_f (p := mtP σ c) (fun z => zc4 z.1)).symm) | fail) (by first | (unfold mts; first | exact (if_neg zc4).symm | (rw [if_pos zc4]; first | exact (if_pos zc22).symm | exact (if_neg zc22).symm)) | fail)
    · skip
      refine j_iconst (v := 1) hx d_Mo_takesSign_25 (by decide) ?_
      refine j_goto (tgt := 30) hx d_Mo_takesSign_26 (by decide) ?_
      refine j_istore_n hx [(2, .int 1), (0, .ref (G.1 111)), (1, .int c)] d_Mo_takesSign_30 rfl (by decide) rfl ?_
      refine j_iload_n hx d_Mo_takesSign_31 rfl 0 rfl ?_
      refine j_if_eq (tgt := 45) hx d_Mo_takesSign_32 (by decide) (fun zc32 => absurd zc32 (by decide)) (fun _ => ?_)
      refine j_aload_n hx d_Mo_takesSign_35 rfl 1 rfl ?_
      refine j_dup hx d_Mo_takesSign_36 rfl ?_
      refine j_get hx ck_Mo 4 (by decide) t_1422 (by decide) (sh_111 _ _) rfl d_Mo_takesSign_37 ?_
      refine j_iconst (v := 1) hx d_Mo_takesSign_40 (by decide) ?_
      refine j_iadd hx d_Mo_takesSign_41 ?_
      refine j_put hx ck_Mo 4 (by decide) t_1422 (by decide) (sh_111 _ _) rfl (Nat.le_of_ble_eq_true rfl) (sh_111 _ _) d_Mo_takesSign_42 ?_
      refine j_iload_n hx d_Mo_takesSign_45 rfl 0 rfl ?_
      exact j_iret hx hq rfl d_Mo_takesSign_46 (by first | (first | exact (b2_t (p := mtP σ c) ⟨zc4, zc22⟩).symm | exact (b2_f (p := mtP σ c) (fun z => zc22 z.2)).symm | exact (b2_f (p := mtP σ c) (fun z => zc4 z.1)).symm) | fail) (by first | (unfold mts; first | exact (if_neg zc4).symm | (rw [if_pos zc4]; first | exact (if_pos zc22).symm | exact (if_neg zc22).symm)) | fail)
  · skip
    refine j_iconst (v := 0) hx d_Mo_takesSign_7 (by decide) ?_
    exact j_iret hx hq rfl d_Mo_takesSign_8 (by first | (first | exact (b2_t (p := mtP σ c) ⟨zc4, zc22⟩).symm | exact (b2_f (p := mtP σ c) (fun z => zc22 z.2)).symm | exact (b2_f (p := mtP σ c) (fun z => zc4 z.1)).symm) | fail) (by first | (unfold mts; first | exact (if_neg zc4).symm | (rw [if_pos zc4]; first | exact (if_pos zc22).symm | exact (if_neg zc22).symm)) | fail)

set_option maxRecDepth 20000 in
set_option maxHeartbeats 600000 in
theorem c_Mo_starts {l : Launch} {G : Gz} (hG : zI G) (σ : St) (n : Int32) (h0 : 0 ≤ n.toInt) (h1 : n.toInt ≤ 600) : MV l G y_Mo_starts prog_14_method_23_code 2 3 [.ref (G.1 111), .int n] σ (mst σ n) := by
  refine MV.of hG (by decide) (Nat.le_of_ble_eq_true rfl) (fun X hx hq => ?_)
  show J l G X 2 σ 0 [(0, .ref (G.1 111)), (1, .int n)] []
  refine j_aload_n hx d_Mo_starts_0 rfl 0 rfl ?_
  refine j_iconst (v := 0) hx d_Mo_starts_1 (by decide) ?_
  refine j_put hx ck_Mo 1 (by decide) t_1419 (by decide) (sh_111 _ _) rfl (Nat.le_of_ble_eq_true rfl) (sh_111 _ _) d_Mo_starts_2 ?_
  refine j_aload_n hx d_Mo_starts_5 rfl 0 rfl ?_
  refine j_iload_n hx d_Mo_starts_6 rfl 1 rfl ?_
  refine j_put hx ck_Mo 2 (by decide) t_1420 (by decide) (sh_111 _ _) rfl (Nat.le_of_ble_eq_true rfl) (sh_111 _ _) d_Mo_starts_7 ?_
  refine j_aload_n hx d_Mo_starts_10 rfl 0 rfl ?_
  refine j_iconst (v := 0) hx d_Mo_starts_11 (by decide) ?_
  refine j_put hx ck_Mo 4 (by decide) t_1422 (by decide) (sh_111 _ _) rfl (Nat.le_of_ble_eq_true rfl) (sh_111 _ _) d_Mo_starts_12 ?_
  refine j_aload_n hx d_Mo_starts_15 rfl 0 rfl ?_
  refine j_iconst (v := 0) hx d_Mo_starts_16 (by decide) ?_
  refine j_put hx ck_Mo 5 (by decide) t_1423 (by decide) (sh_111 _ _) rfl (Nat.le_of_ble_eq_true rfl) (sh_111 _ _) d_Mo_starts_17 ?_
  refine j_aload_n hx d_Mo_starts_20 rfl 0 rfl ?_
  refine j_iconst (v := (-1)) hx d_Mo_starts_21 (by decide) ?_
  refine j_put hx ck_Mo 6 (by decide) t_1424 (by decide) (sh_111 _ _) rfl (Nat.le_of_ble_eq_true rfl) (sh_111 _ _) d_Mo_starts_22 ?_
  refine j_aload_n hx d_Mo_starts_25 rfl 0 rfl ?_
  refine j_iconst (v := 0) hx d_Mo_starts_26 (by decide) ?_
  refine j_put hx ck_Mo 7 (by decide) t_1425 (by decide) (sh_111 _ _) rfl (Nat.le_of_ble_eq_true rfl) (sh_111 _ _) d_Mo_starts_27 ?_
  refine j_aload_n hx d_Mo_starts_30 rfl 0 rfl ?_
  refine j_iconst (v := 0) hx d_Mo_starts_31 (by decide) ?_
  refine j_put hx ck_Mo 8 (by decide) t_1426 (by decide) (sh_111 _ _) rfl (Nat.le_of_ble_eq_true rfl) (sh_111 _ _) d_Mo_starts_32 ?_
  obtain ⟨s9_1, eg_1⟩ : ∃ z : St, z = up (up (up (up (up (up (up σ 111 1 0) 111 2 n) 111 4 0) 111 5 0) 111 6 (-1)) 111 7 0) 111 8 0 := ⟨_, rfl⟩
  refine J.to (σ' := s9_1) (by rw [eg_1]; first | done | rfl) rfl ?_
  refine j_aload_n hx d_Mo_starts_35 rfl 0 rfl ?_
  refine j_callVv hx (c_Mo_blanks hG s9_1 (by rw [eg_1]; exact pB_st h0 h1)) mo_Mo_blanks mv_Mo_blanks t_1592 (by decide) rfl (by decide) (sh_111 _ _) rfl rfl (Nat.le_of_ble_eq_true rfl) d_Mo_starts_36 ?_
  exact j_vret hx hq d_Mo_starts_39 (by first | (rw [eg_1]; rfl) | fail)

set_option maxRecDepth 20000 in
set_option maxHeartbeats 600000 in
theorem c_Mo_ends {l : Launch} {G : Gz} (hG : zI G) (σ : St) : MI l G y_Mo_ends prog_14_method_24_code 1 .int 1 [.ref (G.1 111)] σ (σ 111 5 - 10) (up σ 111 3 (σ 111 6)) := by
  refine MI.of hG (by decide) (Nat.le_of_ble_eq_true rfl) (fun X hx hq => ?_)
  show J l G X 1 σ 0 [(0, .ref (G.1 111))] []
  refine j_aload_n hx d_Mo_ends_0 rfl 0 rfl ?_
  refine j_aload_n hx d_Mo_ends_1 rfl 0 rfl ?_
  refine j_get hx ck_Mo 6 (by decide) t_1424 (by decide) (sh_111 _ _) rfl d_Mo_ends_2 ?_
  refine j_put hx ck_Mo 3 (by decide) t_1421 (by decide) (sh_111 _ _) rfl (Nat.le_of_ble_eq_true rfl) (sh_111 _ _) d_Mo_ends_5 ?_
  refine j_aload_n hx d_Mo_ends_8 rfl 0 rfl ?_
  refine j_get hx ck_Mo 5 (by decide) t_1423 (by decide) (sh_111 _ _) rfl d_Mo_ends_9 ?_
  refine j_bipush (v := 10) hx d_Mo_ends_12 (by decide) ?_
  refine j_isub hx d_Mo_ends_14 ?_
  exact j_iret hx hq rfl d_Mo_ends_15 (by first | (first | rfl | (rw [up_k (by decide)]; done)) | fail) (by first | (rfl) | fail)

