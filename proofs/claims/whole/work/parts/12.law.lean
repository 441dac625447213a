/-! ===== the law as code for a stack (50, its draft 59) ===== -/
def emt (σ : St) (o : Nat) (kd num : Int32) : St := up (rs (rs σ (o + 1) 150 (σ o 4) kd) (o + 3) 150 ((rs σ (o + 1) 150 (σ o 4) kd) o 4) num) o 4 ((rs (rs σ (o + 1) 150 (σ o 4) kd) (o + 3) 150 ((rs σ (o + 1) 150 (σ o 4) kd) o 4) num) o 4 + 1)
def lrs (σ : St) (o : Nat) : St := emt (emt (emt (up σ o 4 0) o 0 0) o 11 1) o 13 0
def lbc (σ : St) (o q : Nat) : St := up (cpy (cpy σ (o + 1) 150 (q + 1) 150 0 0 (Int32.ofNat 150)) (o + 3) 150 (q + 3) 150 0 0 (Int32.ofNat 150)) o 4 ((cpy (cpy σ (o + 1) 150 (q + 1) 150 0 0 (Int32.ofNat 150)) (o + 3) 150 (q + 3) 150 0 0 (Int32.ofNat 150)) q 4)
def tln (σ : St) (night fog : Int32) : St := rs (rs σ 55 9 7 night) 55 9 8 fog
def ts1 (σ : St) (s : Int32) : St := rs σ 55 9 4 (sT σ s)
def ts2 (σ : St) (s : Int32) : St := rs σ 55 9 5 (sD σ s)
def ts3 (σ : St) (s : Int32) : St := rs σ 55 9 6 (sW σ s)
def tls (σ : St) (s seen dark m c : Int32) : St := rs (rs (rs (rs (ts3 (ts2 (ts1 σ s) s) s) 55 9 0 seen) 55 9 1 dark) 55 9 2 m) 55 9 3 c
def jnd (k x y : Int32) : Int32 := if k = 9 then (if y < x then y else x) else if k = 12 then x + y else if k = 13 then x - y else if k = 14 then x * y else if k = 15 then (if y = 0 then 0 else x / y) else if k = 16 then (if y = 0 then 0 else x - x / y * y) else (if x < y then y else x)
def lst (k : Nat) (z : St × Int32) : St × Int32 :=
  if rg (z.1 52) 150 (nI k) < 9 then (rs z.1 57 150 z.2 (rg (z.1 56) 9 (rg (z.1 52) 150 (nI k))), z.2 + 1)
  else if rg (z.1 52) 150 (nI k) = 11 then (rs z.1 57 150 z.2 (rg (z.1 54) 150 (nI k)), z.2 + 1)
  else (rs z.1 57 150 (z.2 + (-1) - 1) (jnd (rg (z.1 52) 150 (nI k)) (rg (z.1 58) 150 (z.2 + (-1) - 1)) (rg (z.1 58) 150 (z.2 + (-1)))), z.2 + (-1))
def lrn (σ : St) (n : Nat) : St × Int32 := it lst (σ, 0) n
theorem rs57 {σ : St} {n o : Nat} {i v : Int32} (h : o ≠ 58) : rs σ 57 n i v o = σ o := rs_o (o := 57) h
set_option maxRecDepth 20000 in
theorem lst_o {k : Nat} {z : St × Int32} {o : Nat} (h : o ≠ 58) : (lst k z).1 o = z.1 o := by
  unfold lst
  by_cases h1 : rg (z.1 52) 150 (nI k) < 9
  · rw [if_pos h1]; exact rs57 h
  · rw [if_neg h1]
    by_cases h2 : rg (z.1 52) 150 (nI k) = 11
    · rw [if_pos h2]; exact rs57 h
    · rw [if_neg h2]; simp only [rs57 h]
theorem lrn_o {σ : St} {n o : Nat} (h : o ≠ 58) : (lrn σ n).1 o = σ o := by
  induction n with
  | zero => rfl
  | succ n ih => unfold lrn at *; rw [it_s, lst_o h, ih]
def lwS (σ : St) : St := (lrn σ (ct (σ 50 4))).1
abbrev lwP (σ : St) : Prop := 0 < rg ((lwS σ) 58) 150 0
/-! ===== the log (68, its draft 71) ===== -/
abbrev lgF (σ : St) (p a : Int32) (m : Nat) : Prop := rg (σ 70) 60 (nI m) = (if lft (nI m) p = a then 1 else 2)
abbrev fit (σ : St) (p a : Int32) : Prop := ∀ m, m < 60 → ¬ lgF σ p a m
def ftA (σ : St) (i : Nat) (n : Nat) (x : Int32) : Int32 := it (fun a s => s + b2 (fit σ (nI (i + 1)) (nI a))) x n
def ftP (σ : St) (n : Nat) : Int32 := it (fun i s => ftA σ i (i + 1) s) 0 n
def ffA (σ : St) (i a : Nat) : Option Int32 := if fit σ (nI (i + 1)) (nI a) then some (10 * nI (i + 1) + nI a) else none
def ffP (σ : St) (i : Nat) : Option Int32 := fnd (ffA σ i) (i + 1)
def ffF (σ : St) : Int32 := (fnd (ffP σ) 9).getD (-1)
def lwB (σ : St) (m : Int32) (i a : Nat) (x : Int32 × Int32) : Int32 × Int32 := if ¬ fit σ (nI (i + 1)) (nI a) then x else if lft m (nI (i + 1)) = nI a then (x.1 + 1, x.2) else (x.1, x.2 + 1)
def lwA (σ : St) (m : Int32) (i n : Nat) (x : Int32 × Int32) : Int32 × Int32 := it (lwB σ m i) x n
def lwW (σ : St) (m : Int32) (n : Nat) : Int32 × Int32 := it (fun i x => lwA σ m i (i + 1) x) (0, 0) n
def lwV (σ : St) (m : Int32) : Int32 := if (lwW σ m 9).1 < (lwW σ m 9).2 then (lwW σ m 9).2 else (lwW σ m 9).1
def bmB (σ : St) (m : Nat) (x : Int32 × Int32) : Int32 × Int32 := if ¬ rg (σ 70) 60 (nI m) = 0 then x else if x.1 = -1 ∨ lwV σ (nI m) < x.2 then (nI m, lwV σ (nI m)) else x
def bmF (σ : St) (n : Nat) : Int32 × Int32 := it (bmB σ) (-1, 0) n
theorem lrn_s {σ : St} {i : Nat} : lrn σ (i + 1) = lst i (lrn σ i) := rfl
theorem lrn_1 {σ : St} {i : Nat} (h : ¬ 9 ≤ rg ((lrn σ i).1 52) 150 (nI i)) : (lrn σ (i + 1)).1 = rs (lrn σ i).1 57 150 (lrn σ i).2 (rg ((lrn σ i).1 56) 9 (rg ((lrn σ i).1 52) 150 (nI i))) := by
  rw [lrn_s]; unfold lst; rw [if_pos (i_nle h)]
theorem lrn_1b {σ : St} {i : Nat} (h : ¬ 9 ≤ rg ((lrn σ i).1 52) 150 (nI i)) : (lrn σ (i + 1)).2 = (lrn σ i).2 + 1 := by
  rw [lrn_s]; unfold lst; rw [if_pos (i_nle h)]
theorem lrn_2 {σ : St} {i : Nat} (h : 9 ≤ rg ((lrn σ i).1 52) 150 (nI i)) (h2 : rg ((lrn σ i).1 52) 150 (nI i) = 11) : (lrn σ (i + 1)).1 = rs (lrn σ i).1 57 150 (lrn σ i).2 (rg ((lrn σ i).1 54) 150 (nI i)) := by
  rw [lrn_s]; unfold lst; rw [if_neg (i_lelt h), if_pos h2]
theorem lrn_2b {σ : St} {i : Nat} (h : 9 ≤ rg ((lrn σ i).1 52) 150 (nI i)) (h2 : rg ((lrn σ i).1 52) 150 (nI i) = 11) : (lrn σ (i + 1)).2 = (lrn σ i).2 + 1 := by
  rw [lrn_s]; unfold lst; rw [if_neg (i_lelt h), if_pos h2]
theorem lrn_3 {σ : St} {i : Nat} (h : 9 ≤ rg ((lrn σ i).1 52) 150 (nI i)) (h2 : ¬ rg ((lrn σ i).1 52) 150 (nI i) = 11) : (lrn σ (i + 1)).1 = rs (lrn σ i).1 57 150 ((lrn σ i).2 + (-1) - 1) (jnd (rg ((lrn σ i).1 52) 150 (nI i)) (rg ((lrn σ i).1 58) 150 ((lrn σ i).2 + (-1) - 1)) (rg ((lrn σ i).1 58) 150 ((lrn σ i).2 + (-1)))) := by
  rw [lrn_s]; unfold lst; rw [if_neg (i_lelt h), if_neg h2]
theorem lrn_3b {σ : St} {i : Nat} (h : 9 ≤ rg ((lrn σ i).1 52) 150 (nI i)) (h2 : ¬ rg ((lrn σ i).1 52) 150 (nI i) = 11) : (lrn σ (i + 1)).2 = (lrn σ i).2 + (-1) := by
  rw [lrn_s]; unfold lst; rw [if_neg (i_lelt h), if_neg h2]
theorem lwA_1 {σ : St} {m : Int32} {i j : Nat} {x : Int32 × Int32} (h : b2 (fit σ (nI (i + 1)) (nI j)) = 0) : lwA σ m i (j + 1) x = lwA σ m i j x := by
  show lwB σ m i j (lwA σ m i j x) = _; unfold lwB; rw [if_pos (b2_z h)]
theorem lwA_2 {σ : St} {m : Int32} {i j : Nat} {x : Int32 × Int32} (h : ¬ b2 (fit σ (nI (i + 1)) (nI j)) = 0) (h2 : lft m (nI (i + 1)) = nI j) : lwA σ m i (j + 1) x = ((lwA σ m i j x).1 + 1, (lwA σ m i j x).2) := by
  show lwB σ m i j (lwA σ m i j x) = _; unfold lwB; rw [if_neg (fun z => z (b2_nz h)), if_pos h2]
theorem lwA_3 {σ : St} {m : Int32} {i j : Nat} {x : Int32 × Int32} (h : ¬ b2 (fit σ (nI (i + 1)) (nI j)) = 0) (h2 : ¬ lft m (nI (i + 1)) = nI j) : lwA σ m i (j + 1) x = ((lwA σ m i j x).1, (lwA σ m i j x).2 + 1) := by
  show lwB σ m i j (lwA σ m i j x) = _; unfold lwB; rw [if_neg (fun z => z (b2_nz h)), if_neg h2]
theorem bmF_1 {σ : St} {i : Nat} (h : ¬ rg (σ 70) 60 (nI i) = 0) : bmF σ (i + 1) = bmF σ i := by
  show bmB σ i (bmF σ i) = _; unfold bmB; rw [if_pos h]
theorem bmF_2 {σ : St} {i : Nat} (h : rg (σ 70) 60 (nI i) = 0) (h2 : (bmF σ i).1 = -1 ∨ lwV σ (nI i) < (bmF σ i).2) : bmF σ (i + 1) = (nI i, lwV σ (nI i)) := by
  show bmB σ i (bmF σ i) = _; unfold bmB; rw [if_neg (fun z => z h), if_pos h2]
theorem bmF_3 {σ : St} {i : Nat} (h : rg (σ 70) 60 (nI i) = 0) (h2 : ¬ ((bmF σ i).1 = -1 ∨ lwV σ (nI i) < (bmF σ i).2)) : bmF σ (i + 1) = bmF σ i := by
  show bmB σ i (bmF σ i) = _; unfold bmB; rw [if_neg (fun z => z h), if_neg h2]

set_option maxRecDepth 20000 in
set_option maxHeartbeats 4000000 in
theorem c_Law_emit {l : Launch} {G : Gz} (hG : zI G) {o : Nat} (ho_o : isLaw o) (σ : St) (kd : Int32) (num : Int32) : MV l G y_Law_emit prog_5_method_9_code 3 2 [.ref (G.1 (o)), .int kd, .int num] σ (emt σ o kd num) := by
  refine MV.of hG (by decide) (Nat.le_of_ble_eq_true rfl) (fun X hx hq => ?_)
  show J l G X 3 σ 0 [(0, .ref (G.1 (o))), (1, .int kd), (2, .int num)] []
  refine j_aload_n hx d_Law_emit_0 rfl 0 rfl ?_
  refine j_get hx ck_Law 0 (by decide) t_159 (by have := ho_o.1; omega) (ho_o.2.1 _ _) rfl d_Law_emit_1 ?_
  refine j_aload_n hx d_Law_emit_4 rfl 0 rfl ?_
  refine j_get hx ck_Law 4 (by decide) t_163 (by have := ho_o.1; omega) (ho_o.2.1 _ _) rfl d_Law_emit_5 ?_
  refine j_iload_n hx d_Law_emit_8 rfl 1 rfl ?_
  refine j_callVv hx (c_Row_set hG ho_o.2.2.1 σ (σ o 4) kd) mo_Row_set mv_Row_set t_155 (by decide) rfl (by have := ho_o.2.2.1.1; omega) (ho_o.2.2.1.2.1 _ _) rfl rfl (Nat.le_of_ble_eq_true rfl) d_Law_emit_9 ?_
  refine j_aload_n hx d_Law_emit_12 rfl 0 rfl ?_
  refine j_get hx ck_Law 1 (by decide) t_160 (by have := ho_o.1; omega) (ho_o.2.1 _ _) rfl d_Law_emit_13 ?_
  refine j_aload_n hx d_Law_emit_16 rfl 0 rfl ?_
  refine j_get hx ck_Law 4 (by decide) t_163 (by have := ho_o.1; omega) (ho_o.2.1 _ _) rfl d_Law_emit_17 ?_
  refine j_iload_n hx d_Law_emit_20 rfl 2 rfl ?_
  refine j_callVv hx (c_Row_set hG ho_o.2.2.2.1 (rs σ (o + 1) 150 (σ o 4) kd) ((rs σ (o + 1) 150 (σ o 4) kd) o 4) num) mo_Row_set mv_Row_set t_155 (by decide) rfl (by have := ho_o.2.2.2.1.1; omega) (ho_o.2.2.2.1.2.1 _ _) rfl rfl (Nat.le_of_ble_eq_true rfl) d_Law_emit_21 ?_
  refine j_aload_n hx d_Law_emit_24 rfl 0 rfl ?_
  refine j_dup hx d_Law_emit_25 rfl ?_
  refine j_get hx ck_Law 4 (by decide) t_163 (by have := ho_o.1; omega) (ho_o.2.1 _ _) rfl d_Law_emit_26 ?_
  refine j_iconst (v := 1) hx d_Law_emit_29 (by decide) ?_
  refine j_iadd hx d_Law_emit_30 ?_
  refine j_put hx ck_Law 4 (by decide) t_163 (by have := ho_o.1; omega) (ho_o.2.1 _ _) rfl (Nat.le_of_ble_eq_true rfl) (ho_o.2.1 _ _) d_Law_emit_31 ?_
  exact j_vret hx hq d_Law_emit_34 (by first | (first | rfl | (simp only []; done) | (simp []; done)) | fail)

set_option maxRecDepth 20000 in
set_option maxHeartbeats 4000000 in
theorem c_Law_reset {l : Launch} {G : Gz} (hG : zI G) {o : Nat} (ho_o : isLaw o) (σ : St) : MV l G y_Law_reset prog_5_method_2_code 1 3 [.ref (G.1 (o))] σ (lrs σ o) := by
  refine MV.of hG (by decide) (Nat.le_of_ble_eq_true rfl) (fun X hx hq => ?_)
  show J l G X 1 σ 0 [(0, .ref (G.1 (o)))] []
  refine j_aload_n hx d_Law_reset_0 rfl 0 rfl ?_
  refine j_iconst (v := 0) hx d_Law_reset_1 (by decide) ?_
  refine j_put hx ck_Law 4 (by decide) t_163 (by have := ho_o.1; omega) (ho_o.2.1 _ _) rfl (Nat.le_of_ble_eq_true rfl) (ho_o.2.1 _ _) d_Law_reset_2 ?_
  obtain ⟨s9_1, eg_1⟩ : ∃ z : St, z = up σ o 4 0 := ⟨_, rfl⟩
  refine J.to (σ' := s9_1) (by rw [eg_1]; first | done | rfl) rfl ?_
  refine j_aload_n hx d_Law_reset_5 rfl 0 rfl ?_
  refine j_iconst (v := 0) hx d_Law_reset_6 (by decide) ?_
  refine j_iconst (v := 0) hx d_Law_reset_7 (by decide) ?_
  refine j_callVv hx (c_Law_emit hG ho_o s9_1 0 0) mo_Law_emit mv_Law_emit t_151 (by decide) rfl (by have := ho_o.1; omega) (ho_o.2.1 _ _) rfl rfl (Nat.le_of_ble_eq_true rfl) d_Law_reset_8 ?_
  obtain ⟨s9_2, eg_2⟩ : ∃ z : St, z = emt s9_1 o 0 0 := ⟨_, rfl⟩
  refine J.to (σ' := s9_2) (by rw [eg_2]; first | done | rfl) rfl ?_
  refine j_aload_n hx d_Law_reset_11 rfl 0 rfl ?_
  refine j_bipush (v := 11) hx d_Law_reset_12 (by decide) ?_
  refine j_iconst (v := 1) hx d_Law_reset_14 (by decide) ?_
  refine j_callVv hx (c_Law_emit hG ho_o s9_2 11 1) mo_Law_emit mv_Law_emit t_151 (by decide) rfl (by have := ho_o.1; omega) (ho_o.2.1 _ _) rfl rfl (Nat.le_of_ble_eq_true rfl) d_Law_reset_15 ?_
  obtain ⟨s9_3, eg_3⟩ : ∃ z : St, z = emt s9_2 o 11 1 := ⟨_, rfl⟩
  refine J.to (σ' := s9_3) (by rw [eg_3]; first | done | rfl) rfl ?_
  refine j_aload_n hx d_Law_reset_18 rfl 0 rfl ?_
  refine j_bipush (v := 13) hx d_Law_reset_19 (by decide) ?_
  refine j_iconst (v := 0) hx d_Law_reset_21 (by decide) ?_
  refine j_callVv hx (c_Law_emit hG ho_o s9_3 13 0) mo_Law_emit mv_Law_emit t_151 (by decide) rfl (by have := ho_o.1; omega) (ho_o.2.1 _ _) rfl rfl (Nat.le_of_ble_eq_true rfl) d_Law_reset_22 ?_
  exact j_vret hx hq d_Law_reset_25 (by first | (rw [eg_3, eg_2, eg_1]; rfl) | fail)

set_option maxRecDepth 20000 in
set_option maxHeartbeats 4000000 in
theorem c_Law_become {l : Launch} {G : Gz} (hG : zI G) {o : Nat} (ho_o : isLaw o) {q : Nat} (ho_q : isLaw q) (σ : St) : MV l G y_Law_become prog_5_method_3_code 2 4 [.ref (G.1 (o)), .ref (G.1 (q))] σ (lbc σ o q) := by
  refine MV.of hG (by decide) (Nat.le_of_ble_eq_true rfl) (fun X hx hq => ?_)
  show J l G X 2 σ 0 [(0, .ref (G.1 (o))), (1, .ref (G.1 (q)))] []
  refine j_aload_n hx d_Law_become_0 rfl 0 rfl ?_
  refine j_get hx ck_Law 0 (by decide) t_159 (by have := ho_o.1; omega) (ho_o.2.1 _ _) rfl d_Law_become_1 ?_
  refine j_aload_n hx d_Law_become_4 rfl 1 rfl ?_
  refine j_get hx ck_Law 0 (by decide) t_159 (by have := ho_q.1; omega) (ho_q.2.1 _ _) rfl d_Law_become_5 ?_
  refine j_callVv hx (c_Row_become hG ho_o.2.2.1 ho_q.2.2.1 σ) mo_Row_become mv_Row_become t_823 (by decide) rfl (by have := ho_o.2.2.1.1; omega) (ho_o.2.2.1.2.1 _ _) rfl rfl (Nat.le_of_ble_eq_true rfl) d_Law_become_8 ?_
  refine j_aload_n hx d_Law_become_11 rfl 0 rfl ?_
  refine j_get hx ck_Law 1 (by decide) t_160 (by have := ho_o.1; omega) (ho_o.2.1 _ _) rfl d_Law_become_12 ?_
  refine j_aload_n hx d_Law_become_15 rfl 1 rfl ?_
  refine j_get hx ck_Law 1 (by decide) t_160 (by have := ho_q.1; omega) (ho_q.2.1 _ _) rfl d_Law_become_16 ?_
  refine j_callVv hx (c_Row_become hG ho_o.2.2.2.1 ho_q.2.2.2.1 (cpy σ (o + 1) 150 (q + 1) 150 0 0 (Int32.ofNat 150))) mo_Row_become mv_Row_become t_823 (by decide) rfl (by have := ho_o.2.2.2.1.1; omega) (ho_o.2.2.2.1.2.1 _ _) rfl rfl (Nat.le_of_ble_eq_true rfl) d_Law_become_19 ?_
  refine j_aload_n hx d_Law_become_22 rfl 0 rfl ?_
  refine j_aload_n hx d_Law_become_23 rfl 1 rfl ?_
  refine j_get hx ck_Law 4 (by decide) t_163 (by have := ho_q.1; omega) (ho_q.2.1 _ _) rfl d_Law_become_24 ?_
  refine j_put hx ck_Law 4 (by decide) t_163 (by have := ho_o.1; omega) (ho_o.2.1 _ _) rfl (Nat.le_of_ble_eq_true rfl) (ho_o.2.1 _ _) d_Law_become_27 ?_
  exact j_vret hx hq d_Law_become_30 (by first | (first | rfl | (simp only []; done) | (simp []; done)) | fail)

set_option maxRecDepth 20000 in
set_option maxHeartbeats 4000000 in
theorem c_Law_tellNight {l : Launch} {G : Gz} (hG : zI G) (σ : St) (night : Int32) (fog : Int32) : MV l G y_Law_tellNight prog_5_method_4_code 3 2 [.ref (G.1 50), .int night, .int fog] σ (tln σ night fog) := by
  refine MV.of hG (by decide) (Nat.le_of_ble_eq_true rfl) (fun X hx hq => ?_)
  show J l G X 3 σ 0 [(0, .ref (G.1 50)), (1, .int night), (2, .int fog)] []
  refine j_aload_n hx d_Law_tellNight_0 rfl 0 rfl ?_
  refine j_get hx ck_Law 2 (by decide) t_161 (by decide) (sh_50 _ _) rfl d_Law_tellNight_1 ?_
  refine j_bipush (v := 7) hx d_Law_tellNight_4 (by decide) ?_
  refine j_iload_n hx d_Law_tellNight_6 rfl 1 rfl ?_
  refine j_callVv hx (c_Row_set hG ir_55 σ 7 night) mo_Row_set mv_Row_set t_155 (by decide) rfl (by decide) (sh_55 _ _) rfl rfl (Nat.le_of_ble_eq_true rfl) d_Law_tellNight_7 ?_
  refine j_aload_n hx d_Law_tellNight_10 rfl 0 rfl ?_
  refine j_get hx ck_Law 2 (by decide) t_161 (by decide) (sh_50 _ _) rfl d_Law_tellNight_11 ?_
  refine j_bipush (v := 8) hx d_Law_tellNight_14 (by decide) ?_
  refine j_iload_n hx d_Law_tellNight_16 rfl 2 rfl ?_
  refine j_callVv hx (c_Row_set hG ir_55 (rs σ 55 9 7 night) 8 fog) mo_Row_set mv_Row_set t_155 (by decide) rfl (by decide) (sh_55 _ _) rfl rfl (Nat.le_of_ble_eq_true rfl) d_Law_tellNight_17 ?_
  exact j_vret hx hq d_Law_tellNight_20 (by first | (first | rfl | (simp only []; done) | (simp []; done)) | fail)

set_option maxRecDepth 20000 in
set_option maxHeartbeats 4000000 in
theorem c_Law_tellShip {l : Launch} {G : Gz} (hG : zI G) (σ : St) (s : Int32) (seen : Int32) (dark : Int32) (m : Int32) (c : Int32) : MV l G y_Law_tellShip prog_5_method_5_code 7 2 [.ref (G.1 50), .ref (G.1 4), .int s, .int seen, .int dark, .int m, .int c] σ (tls σ s seen dark m c) := by
  refine MV.of hG (by decide) (Nat.le_of_ble_eq_true rfl) (fun X hx hq => ?_)
  show J l G X 7 σ 0 [(0, .ref (G.1 50)), (1, .ref (G.1 4)), (2, .int s), (3, .int seen), (4, .int dark), (5, .int m), (6, .int c)] []
  refine j_aload_n hx d_Law_tellShip_0 rfl 0 rfl ?_
  refine j_get hx ck_Law 2 (by decide) t_161 (by decide) (sh_50 _ _) rfl d_Law_tellShip_1 ?_
  refine j_iconst (v := 4) hx d_Law_tellShip_4 (by decide) ?_
  refine j_aload_n hx d_Law_tellShip_5 rfl 1 rfl ?_
  refine j_get hx ck_Coast 8 (by decide) t_109 (by decide) (sh_4 _ _) rfl d_Law_tellShip_6 ?_
  refine j_iload_n hx d_Law_tellShip_9 rfl 2 rfl ?_
  refine j_callVi hx (c_Row_getA hG ir_21 22 rfl σ s) mo_Row_get mv_Row_get t_489 (by decide) rfl (by decide) (sh_21 _ _) rfl rfl (Nat.le_of_ble_eq_true rfl) d_Law_tellShip_10 ?_
  refine j_callVv hx (c_Row_set hG ir_55 σ 4 (rg (σ (21 + 1)) 6 s)) mo_Row_set mv_Row_set t_155 (by decide) rfl (by decide) (sh_55 _ _) rfl rfl (Nat.le_of_ble_eq_true rfl) d_Law_tellShip_13 ?_
  obtain ⟨s9_1, eg_1⟩ : ∃ z : St, z = ts1 σ s := ⟨_, rfl⟩
  refine J.to (σ' := s9_1) (by rw [eg_1]; first | done | rfl) rfl ?_
  refine j_aload_n hx d_Law_tellShip_16 rfl 0 rfl ?_
  refine j_get hx ck_Law 2 (by decide) t_161 (by decide) (sh_50 _ _) rfl d_Law_tellShip_17 ?_
  refine j_iconst (v := 5) hx d_Law_tellShip_20 (by decide) ?_
  refine j_aload_n hx d_Law_tellShip_21 rfl 1 rfl ?_
  refine j_get hx ck_Coast 9 (by decide) t_111 (by decide) (sh_4 _ _) rfl d_Law_tellShip_22 ?_
  refine j_iload_n hx d_Law_tellShip_25 rfl 2 rfl ?_
  refine j_callVi hx (c_Row_getA hG ir_23 24 rfl s9_1 s) mo_Row_get mv_Row_get t_489 (by decide) rfl (by decide) (sh_23 _ _) rfl rfl (Nat.le_of_ble_eq_true rfl) d_Law_tellShip_26 ?_
  refine j_callVv hx (c_Row_set hG ir_55 s9_1 5 (rg (s9_1 (23 + 1)) 6 s)) mo_Row_set mv_Row_set t_155 (by decide) rfl (by decide) (sh_55 _ _) rfl rfl (Nat.le_of_ble_eq_true rfl) d_Law_tellShip_29 ?_
  obtain ⟨s9_2, eg_2⟩ : ∃ z : St, z = ts2 s9_1 s := ⟨_, rfl⟩
  refine J.to (σ' := s9_2) (by rw [eg_2]; first | done | rfl) rfl ?_
  refine j_aload_n hx d_Law_tellShip_32 rfl 0 rfl ?_
  refine j_get hx ck_Law 2 (by decide) t_161 (by decide) (sh_50 _ _) rfl d_Law_tellShip_33 ?_
  refine j_bipush (v := 6) hx d_Law_tellShip_36 (by decide) ?_
  refine j_aload_n hx d_Law_tellShip_38 rfl 1 rfl ?_
  refine j_get hx ck_Coast 7 (by decide) t_107 (by decide) (sh_4 _ _) rfl d_Law_tellShip_39 ?_
  refine j_iload_n hx d_Law_tellShip_42 rfl 2 rfl ?_
  refine j_callVi hx (c_Row_getA hG ir_19 20 rfl s9_2 s) mo_Row_get mv_Row_get t_489 (by decide) rfl (by decide) (sh_19 _ _) rfl rfl (Nat.le_of_ble_eq_true rfl) d_Law_tellShip_43 ?_
  refine j_callVv hx (c_Row_set hG ir_55 s9_2 6 (rg (s9_2 (19 + 1)) 6 s)) mo_Row_set mv_Row_set t_155 (by decide) rfl (by decide) (sh_55 _ _) rfl rfl (Nat.le_of_ble_eq_true rfl) d_Law_tellShip_46 ?_
  obtain ⟨s9_3, eg_3⟩ : ∃ z : St, z = ts3 s9_2 s := ⟨_, rfl⟩
  refine J.to (σ' := s9_3) (by rw [eg_3]; first | done | rfl) rfl ?_
  refine j_aload_n hx d_Law_tellShip_49 rfl 0 rfl ?_
  refine j_get hx ck_Law 2 (by decide) t_161 (by decide) (sh_50 _ _) rfl d_Law_tellShip_50 ?_
  refine j_iconst (v := 0) hx d_Law_tellShip_53 (by decide) ?_
  refine j_iload_n hx d_Law_tellShip_54 rfl 3 rfl ?_
  refine j_callVv hx (c_Row_set hG ir_55 s9_3 0 seen) mo_Row_set mv_Row_set t_155 (by decide) rfl (by decide) (sh_55 _ _) rfl rfl (Nat.le_of_ble_eq_true rfl) d_Law_tellShip_55 ?_
  refine j_aload_n hx d_Law_tellShip_58 rfl 0 rfl ?_
  refine j_get hx ck_Law 2 (by decide) t_161 (by decide) (sh_50 _ _) rfl d_Law_tellShip_59 ?_
  refine j_iconst (v := 1) hx d_Law_tellShip_62 (by decide) ?_
  refine j_iload hx d_Law_tellShip_63 4 rfl ?_
  refine j_callVv hx (c_Row_set hG ir_55 (rs s9_3 55 9 0 seen) 1 dark) mo_Row_set mv_Row_set t_155 (by decide) rfl (by decide) (sh_55 _ _) rfl rfl (Nat.le_of_ble_eq_true rfl) d_Law_tellShip_65 ?_
  refine j_aload_n hx d_Law_tellShip_68 rfl 0 rfl ?_
  refine j_get hx ck_Law 2 (by decide) t_161 (by decide) (sh_50 _ _) rfl d_Law_tellShip_69 ?_
  refine j_iconst (v := 2) hx d_Law_tellShip_72 (by decide) ?_
  refine j_iload hx d_Law_tellShip_73 5 rfl ?_
  refine j_callVv hx (c_Row_set hG ir_55 (rs (rs s9_3 55 9 0 seen) 55 9 1 dark) 2 m) mo_Row_set mv_Row_set t_155 (by decide) rfl (by decide) (sh_55 _ _) rfl rfl (Nat.le_of_ble_eq_true rfl) d_Law_tellShip_75 ?_
  refine j_aload_n hx d_Law_tellShip_78 rfl 0 rfl ?_
  refine j_get hx ck_Law 2 (by decide) t_161 (by decide) (sh_50 _ _) rfl d_Law_tellShip_79 ?_
  refine j_iconst (v := 3) hx d_Law_tellShip_82 (by decide) ?_
  refine j_iload hx d_Law_tellShip_83 6 rfl ?_
  refine j_callVv hx (c_Row_set hG ir_55 (rs (rs (rs s9_3 55 9 0 seen) 55 9 1 dark) 55 9 2 m) 3 c) mo_Row_set mv_Row_set t_155 (by decide) rfl (by decide) (sh_55 _ _) rfl rfl (Nat.le_of_ble_eq_true rfl) d_Law_tellShip_85 ?_
  exact j_vret hx hq d_Law_tellShip_88 (by first | (rw [eg_3, eg_2, eg_1]; rfl) | fail)

set_option maxRecDepth 20000 in
set_option maxHeartbeats 4000000 in
theorem c_Law_joined {l : Launch} {G : Gz} (hG : zI G) (σ : St) (kd : Int32) (x : Int32) (y : Int32) : MI l G y_Law_joined prog_5_method_7_code 3 .int 1 [.int kd, .int x, .int y] σ (jnd kd x y) σ := by
  refine MI.of hG (by decide) (Nat.le_of_ble_eq_true rfl) (fun X hx hq => ?_)
  show J l G X 3 σ 0 [(0, .int kd), (1, .int x), (2, .int y)] []
  refine j_iload_n hx d_Law_joined_0 rfl 0 rfl ?_
  refine J.sw (x := kd) 9 (fun zc1_0 => ?_) (fun zc1_0 => ?_)
  · skip
    refine j_tableIn (x := kd) (tgt := 84) (off := 83) hx d_Law_joined_1 (by rw [zc1_0]; decide) (by rw [zc1_0]; decide) (by rw [zc1_0]; decide) (by decide) ?_
    refine j_iload_n hx d_Law_joined_84 rfl 1 rfl ?_
    refine j_iload_n hx d_Law_joined_85 rfl 2 rfl ?_
    refine j_mmin hx t_497 (by decide) (Nat.le_of_ble_eq_true rfl) d_Law_joined_86 ?_
    exact j_iret hx hq rfl d_Law_joined_89 (by first | (unfold jnd; simp [zc1_0]) | fail) (by first | (first | rfl | (simp only [zc1_0]; done) | (simp [zc1_0]; done)) | fail)
  refine J.sw (x := kd) 10 (fun zc1_1 => ?_) (fun zc1_1 => ?_)
  · skip
    refine j_tableIn (x := kd) (tgt := 90) (off := 89) hx d_Law_joined_1 (by rw [zc1_1]; decide) (by rw [zc1_1]; decide) (by rw [zc1_1]; decide) (by decide) ?_
    refine j_iload_n hx d_Law_joined_90 rfl 1 rfl ?_
    refine j_iload_n hx d_Law_joined_91 rfl 2 rfl ?_
    refine j_mmax hx t_498 (by decide) (Nat.le_of_ble_eq_true rfl) d_Law_joined_92 ?_
    exact j_iret hx hq rfl d_Law_joined_95 (by first | (unfold jnd; simp [zc1_0, zc1_1]) | fail) (by first | (first | rfl | (simp only [zc1_0, zc1_1]; done) | (simp [zc1_0, zc1_1]; done)) | fail)
  refine J.sw (x := kd) 11 (fun zc1_2 => ?_) (fun zc1_2 => ?_)
  · skip
    refine j_tableIn (x := kd) (tgt := 90) (off := 89) hx d_Law_joined_1 (by rw [zc1_2]; decide) (by rw [zc1_2]; decide) (by rw [zc1_2]; decide) (by decide) ?_
    refine j_iload_n hx d_Law_joined_90 rfl 1 rfl ?_
    refine j_iload_n hx d_Law_joined_91 rfl 2 rfl ?_
    refine j_mmax hx t_498 (by decide) (Nat.le_of_ble_eq_true rfl) d_Law_joined_92 ?_
    exact j_iret hx hq rfl d_Law_joined_95 (by first | (unfold jnd; simp [zc1_0, zc1_1, zc1_2]) | fail) (by first | (first | rfl | (simp only [zc1_0, zc1_1, zc1_2]; done) | (simp [zc1_0, zc1_1, zc1_2]; done)) | fail)
  refine J.sw (x := kd) 12 (fun zc1_3 => ?_) (fun zc1_3 => ?_)
  · skip
    refine j_tableIn (x := kd) (tgt := 48) (off := 47) hx d_Law_joined_1 (by rw [zc1_3]; decide) (by rw [zc1_3]; decide) (by rw [zc1_3]; decide) (by decide) ?_
    refine j_iload_n hx d_Law_joined_48 rfl 1 rfl ?_
    refine j_iload_n hx d_Law_joined_49 rfl 2 rfl ?_
    refine j_iadd hx d_Law_joined_50 ?_
    exact j_iret hx hq rfl d_Law_joined_51 (by first | (unfold jnd; simp [zc1_0, zc1_1, zc1_2, zc1_3]) | fail) (by first | (first | rfl | (simp only [zc1_0, zc1_1, zc1_2, zc1_3]; done) | (simp [zc1_0, zc1_1, zc1_2, zc1_3]; done)) | fail)
  refine J.sw (x := kd) 13 (fun zc1_4 => ?_) (fun zc1_4 => ?_)
  · skip
    refine j_tableIn (x := kd) (tgt := 52) (off := 51) hx d_Law_joined_1 (by rw [zc1_4]; decide) (by rw [zc1_4]; decide) (by rw [zc1_4]; decide) (by decide) ?_
    refine j_iload_n hx d_Law_joined_52 rfl 1 rfl ?_
    refine j_iload_n hx d_Law_joined_53 rfl 2 rfl ?_
    refine j_isub hx d_Law_joined_54 ?_
    exact j_iret hx hq rfl d_Law_joined_55 (by first | (unfold jnd; simp [zc1_0, zc1_1, zc1_2, zc1_3, zc1_4]) | fail) (by first | (first | rfl | (simp only [zc1_0, zc1_1, zc1_2, zc1_3, zc1_4]; done) | (simp [zc1_0, zc1_1, zc1_2, zc1_3, zc1_4]; done)) | fail)
  refine J.sw (x := kd) 14 (fun zc1_5 => ?_) (fun zc1_5 => ?_)
  · skip
    refine j_tableIn (x := kd) (tgt := 56) (off := 55) hx d_Law_joined_1 (by rw [zc1_5]; decide) (by rw [zc1_5]; decide) (by rw [zc1_5]; decide) (by decide) ?_
    refine j_iload_n hx d_Law_joined_56 rfl 1 rfl ?_
    refine j_iload_n hx d_Law_joined_57 rfl 2 rfl ?_
    refine j_imul hx d_Law_joined_58 ?_
    exact j_iret hx hq rfl d_Law_joined_59 (by first | (unfold jnd; simp [zc1_0, zc1_1, zc1_2, zc1_3, zc1_4, zc1_5]) | fail) (by first | (first | rfl | (simp only [zc1_0, zc1_1, zc1_2, zc1_3, zc1_4, zc1_5]; done) | (simp [zc1_0, zc1_1, zc1_2, zc1_3, zc1_4, zc1_5]; done)) | fail)
  refine J.sw (x := kd) 15 (fun zc1_6 => ?_) (fun zc1_6 => ?_)
  · skip
    refine j_tableIn (x := kd) (tgt := 60) (off := 59) hx d_Law_joined_1 (by rw [zc1_6]; decide) (by rw [zc1_6]; decide) (by rw [zc1_6]; decide) (by decide) ?_
    refine j_iload_n hx d_Law_joined_60 rfl 2 rfl ?_
    refine j_if_ne (tgt := 68) hx d_Law_joined_61 (by decide) (fun zc61 => ?_) (fun zc61 => ?_)
    · skip
      refine j_iload_n hx d_Law_joined_68 rfl 1 rfl ?_
      refine j_iload_n hx d_Law_joined_69 rfl 2 rfl ?_
      refine j_idiv hx d_Law_joined_70 (by first | assumption | decide) ?_
      exact j_iret hx hq rfl d_Law_joined_71 (by first | (unfold jnd; simp [zc1_0, zc1_1, zc1_2, zc1_3, zc1_4, zc1_5, zc1_6, zc61]) | fail) (by first | (first | rfl | (simp only [zc1_0, zc1_1, zc1_2, zc1_3, zc1_4, zc1_5, zc1_6, zc61]; done) | (simp [zc1_0, zc1_1, zc1_2, zc1_3, zc1_4, zc1_5, zc1_6, zc61]; done)) | fail)
    · skip
      refine j_iconst (v := 0) hx d_Law_joined_64 (by decide) ?_
      refine j_goto (tgt := 71) hx d_Law_joined_65 (by decide) ?_
      exact j_iret hx hq rfl d_Law_joined_71 (by first | (unfold jnd; simp [zc1_0, zc1_1, zc1_2, zc1_3, zc1_4, zc1_5, zc1_6, zc61]) | fail) (by first | (first | rfl | (simp only [zc1_0, zc1_1, zc1_2, zc1_3, zc1_4, zc1_5, zc1_6, zc61]; done) | (simp [zc1_0, zc1_1, zc1_2, zc1_3, zc1_4, zc1_5, zc1_6, zc61]; done)) | fail)
  refine J.sw (x := kd) 16 (fun zc1_7 => ?_) (fun zc1_7 => ?_)
  · skip
    refine j_tableIn (x := kd) (tgt := 72) (off := 71) hx d_Law_joined_1 (by rw [zc1_7]; decide) (by rw [zc1_7]; decide) (by rw [zc1_7]; decide) (by decide) ?_
    refine j_iload_n hx d_Law_joined_72 rfl 2 rfl ?_
    refine j_if_ne (tgt := 80) hx d_Law_joined_73 (by decide) (fun zc73 => ?_) (fun zc73 => ?_)
    · skip
      refine j_iload_n hx d_Law_joined_80 rfl 1 rfl ?_
      refine j_iload_n hx d_Law_joined_81 rfl 2 rfl ?_
      refine j_irem hx d_Law_joined_82 (by first | assumption | decide) ?_
      exact j_iret hx hq rfl d_Law_joined_83 (by first | (unfold jnd; simp [zc1_0, zc1_1, zc1_2, zc1_3, zc1_4, zc1_5, zc1_6, zc1_7, zc73]) | fail) (by first | (first | rfl | (simp only [zc1_0, zc1_1, zc1_2, zc1_3, zc1_4, zc1_5, zc1_6, zc1_7, zc73]; done) | (simp [zc1_0, zc1_1, zc1_2, zc1_3, zc1_4, zc1_5, zc1_6, zc1_7, zc73]; done)) | fail)
    · skip
      refine j_iconst (v := 0) hx d_Law_joined_76 (by decide) ?_
      refine j_goto (tgt := 83) hx d_Law_joined_77 (by decide) ?_
      exact j_iret hx hq rfl d_Law_joined_83 (by first | (unfold jnd; simp [zc1_0, zc1_1, zc1_2, zc1_3, zc1_4, zc1_5, zc1_6, zc1_7, zc73]) | fail) (by first | (first | rfl | (simp only [zc1_0, zc1_1, zc1_2, zc1_3, zc1_4, zc1_5, zc1_6, zc1_7, zc73]; done) | (simp [zc1_0, zc1_1, zc1_2, zc1_3, zc1_4, zc1_5, zc1_6, zc1_7, zc73]; done)) | fail)
  refine j_tableOut (x := kd) (tgt := 90) hx d_Law_joined_1 (by have h0 := sw_ne zc1_0; have h1 := sw_ne zc1_1; have h2 := sw_ne zc1_2; have h3 := sw_ne zc1_3; have h4 := sw_ne zc1_4; have h5 := sw_ne zc1_5; have h6 := sw_ne zc1_6; have h7 := sw_ne zc1_7; have q9 : Int32.toInt 9 = 9 := rfl; have q10 : Int32.toInt 10 = 10 := rfl; have q11 : Int32.toInt 11 = 11 := rfl; have q12 : Int32.toInt 12 = 12 := rfl; have q13 : Int32.toInt 13 = 13 := rfl; have q14 : Int32.toInt 14 = 14 := rfl; have q15 : Int32.toInt 15 = 15 := rfl; have q16 : Int32.toInt 16 = 16 := rfl; omega) (by decide) ?_
  refine j_iload_n hx d_Law_joined_90 rfl 1 rfl ?_
  refine j_iload_n hx d_Law_joined_91 rfl 2 rfl ?_
  refine j_mmax hx t_498 (by decide) (Nat.le_of_ble_eq_true rfl) d_Law_joined_92 ?_
  exact j_iret hx hq rfl d_Law_joined_95 (by first | (unfold jnd; simp [zc1_0, zc1_1, zc1_2, zc1_3, zc1_4, zc1_5, zc1_6, zc1_7]) | fail) (by first | (first | rfl | (simp only [zc1_0, zc1_1, zc1_2, zc1_3, zc1_4, zc1_5, zc1_6, zc1_7]; done) | (simp [zc1_0, zc1_1, zc1_2, zc1_3, zc1_4, zc1_5, zc1_6, zc1_7]; done)) | fail)

set_option maxRecDepth 20000 in
set_option maxHeartbeats 4000000 in
theorem c_Law_steersIn {l : Launch} {G : Gz} (hG : zI G) (σ : St) : MI l G y_Law_steersIn prog_5_method_6_code 4 .boolean 2 [.ref (G.1 50)] σ (b2 (lwP σ)) (lwS σ) := by
  refine MI.of hG (by decide) (Nat.le_of_ble_eq_true rfl) (fun X hx hq => ?_)
  show J l G X 4 σ 0 [(0, .ref (G.1 50))] []
  refine j_iconst (v := 0) hx d_Law_steersIn_0 (by decide) ?_
  refine j_istore_n hx [(1, .int 0), (0, .ref (G.1 50))] d_Law_steersIn_1 rfl (by decide) rfl ?_
  refine j_iconst (v := 0) hx d_Law_steersIn_2 (by decide) ?_
  refine j_istore_n hx [(2, .int 0), (1, .int 0), (0, .ref (G.1 50))] d_Law_steersIn_3 rfl (by decide) rfl ?_
  have hl4 : ∀ (N9 : Nat) (i : Nat), (i ≤ (ct (σ 50 4))) → (ct (σ 50 4)) - i = N9 → J l G X 4 ((lrn σ i).1) 4 [(0, .ref (G.1 50)), (1, .int ((lrn σ i).2)), (2, .int (nI i))] [] := by
    intro N9
    induction N9 using Nat.strongRecOn with
    | _ N9 ih4 =>
      intro i hi_i hm4
      refine j_iload_n hx d_Law_steersIn_4 rfl 2 rfl ?_
      refine j_aload_n hx d_Law_steersIn_5 rfl 0 rfl ?_
      refine j_get hx ck_Law 4 (by decide) t_163 (by decide) (sh_50 _ _) rfl d_Law_steersIn_6 ?_
      refine j_icmp_ge (tgt := 118) hx d_Law_steersIn_9 (by decide) (fun zc9 => ?_) (fun zc9 => ?_)
      · skip
        obtain rfl := ct_end' hi_i (by have q9 := zc9; rw [lrn_o (by decide)] at q9; exact q9)
        refine j_aload_n hx d_Law_steersIn_118 rfl 0 rfl ?_
        refine j_get hx ck_Law 3 (by decide) t_162 (by decide) (sh_50 _ _) rfl d_Law_steersIn_119 ?_
        refine j_iconst (v := 0) hx d_Law_steersIn_122 (by decide) ?_
        refine j_callVi hx (c_Row_getA hG ir_57 58 rfl ((lrn σ (ct (σ 50 4))).1) 0) mo_Row_get mv_Row_get t_489 (by decide) rfl (by decide) (sh_57 _ _) rfl rfl (Nat.le_of_ble_eq_true rfl) d_Law_steersIn_123 ?_
        refine j_if_le (tgt := 133) hx d_Law_steersIn_126 (by decide) (fun zc126 => ?_) (fun zc126 => ?_)
        · skip
          refine j_iconst (v := 0) hx d_Law_steersIn_133 (by decide) ?_
          exact j_iret hx hq rfl d_Law_steersIn_134 (by first | (first | exact (b2_f (p := lwP σ) (i_lelt zc126)).symm | exact (b2_t (p := lwP σ) (i_nle zc126)).symm) | fail) (by first | (rfl) | fail)
        · skip
          refine j_iconst (v := 1) hx d_Law_steersIn_129 (by decide) ?_
          refine j_goto (tgt := 134) hx d_Law_steersIn_130 (by decide) ?_
          exact j_iret hx hq rfl d_Law_steersIn_134 (by first | (first | exact (b2_f (p := lwP σ) (i_lelt zc126)).symm | exact (b2_t (p := lwP σ) (i_nle zc126)).symm) | fail) (by first | (rfl) | fail)
      · skip
        have hlt4 := ct_go hi_i (by have q9 := zc9; rw [lrn_o (by decide)] at q9; exact q9)
        refine j_aload_n hx d_Law_steersIn_12 rfl 0 rfl ?_
        refine j_get hx ck_Law 0 (by decide) t_159 (by decide) (sh_50 _ _) rfl d_Law_steersIn_13 ?_
        refine j_iload_n hx d_Law_steersIn_16 rfl 2 rfl ?_
        refine j_callVi hx (c_Row_getA hG ir_51 52 rfl ((lrn σ i).1) (nI i)) mo_Row_get mv_Row_get t_489 (by decide) rfl (by decide) (sh_51 _ _) rfl rfl (Nat.le_of_ble_eq_true rfl) d_Law_steersIn_17 ?_
        refine j_istore_n hx [(3, .int (rg (((lrn σ i).1) (51 + 1)) 150 (nI i))), (0, .ref (G.1 50)), (1, .int ((lrn σ i).2)), (2, .int (nI i))] d_Law_steersIn_20 rfl (by decide) rfl ?_
        refine j_iload_n hx d_Law_steersIn_21 rfl 0 rfl ?_
        refine j_bipush (v := 9) hx d_Law_steersIn_22 (by decide) ?_
        refine j_icmp_ge (tgt := 49) hx d_Law_steersIn_24 (by decide) (fun zc24 => ?_) (fun zc24 => ?_)
        · skip
          refine j_iload_n hx d_Law_steersIn_49 rfl 0 rfl ?_
          refine j_bipush (v := 11) hx d_Law_steersIn_50 (by decide) ?_
          refine j_icmp_ne (tgt := 77) hx d_Law_steersIn_52 (by decide) (fun zc52 => ?_) (fun zc52 => ?_)
          · skip
            refine j_iinc hx [(1, .int (((lrn σ i).2) + (-1))), (3, .int (rg (((lrn σ i).1) (51 + 1)) 150 (nI i))), (0, .ref (G.1 50)), (2, .int (nI i))] d_Law_steersIn_77 2 rfl rfl (by decide) rfl ?_
            refine j_aload_n hx d_Law_steersIn_80 rfl 2 rfl ?_
            refine j_get hx ck_Law 3 (by decide) t_162 (by decide) (sh_50 _ _) rfl d_Law_steersIn_81 ?_
            refine j_iload_n hx d_Law_steersIn_84 rfl 0 rfl ?_
            refine j_iconst (v := 1) hx d_Law_steersIn_85 (by decide) ?_
            refine j_isub hx d_Law_steersIn_86 ?_
            refine j_iload_n hx d_Law_steersIn_87 rfl 1 rfl ?_
            refine j_aload_n hx d_Law_steersIn_88 rfl 2 rfl ?_
            refine j_get hx ck_Law 3 (by decide) t_162 (by decide) (sh_50 _ _) rfl d_Law_steersIn_89 ?_
            refine j_iload_n hx d_Law_steersIn_92 rfl 0 rfl ?_
            refine j_iconst (v := 1) hx d_Law_steersIn_93 (by decide) ?_
            refine j_isub hx d_Law_steersIn_94 ?_
            refine j_callVi hx (c_Row_getA hG ir_57 58 rfl ((lrn σ i).1) ((((lrn σ i).2) + (-1)) - 1)) mo_Row_get mv_Row_get t_489 (by decide) rfl (by decide) (sh_57 _ _) rfl rfl (Nat.le_of_ble_eq_true rfl) d_Law_steersIn_95 ?_
            refine j_aload_n hx d_Law_steersIn_98 rfl 2 rfl ?_
            refine j_get hx ck_Law 3 (by decide) t_162 (by decide) (sh_50 _ _) rfl d_Law_steersIn_99 ?_
            refine j_iload_n hx d_Law_steersIn_102 rfl 0 rfl ?_
            refine j_callVi hx (c_Row_getA hG ir_57 58 rfl ((lrn σ i).1) (((lrn σ i).2) + (-1))) mo_Row_get mv_Row_get t_489 (by decide) rfl (by decide) (sh_57 _ _) rfl rfl (Nat.le_of_ble_eq_true rfl) d_Law_steersIn_103 ?_
            refine j_callSi hx (c_Law_joined hG ((lrn σ i).1) (rg (((lrn σ i).1) (51 + 1)) 150 (nI i)) (rg (((lrn σ i).1) (57 + 1)) 150 ((((lrn σ i).2) + (-1)) - 1)) (rg (((lrn σ i).1) (57 + 1)) 150 (((lrn σ i).2) + (-1)))) mo_Law_joined t_495 t_494 (by decide) rfl rfl (Nat.le_of_ble_eq_true rfl) d_Law_steersIn_106 ?_
            refine j_callVv hx (c_Row_set hG ir_57 ((lrn σ i).1) ((((lrn σ i).2) + (-1)) - 1) (jnd (rg (((lrn σ i).1) (51 + 1)) 150 (nI i)) (rg (((lrn σ i).1) (57 + 1)) 150 ((((lrn σ i).2) + (-1)) - 1)) (rg (((lrn σ i).1) (57 + 1)) 150 (((lrn σ i).2) + (-1))))) mo_Row_set mv_Row_set t_155 (by decide) rfl (by decide) (sh_57 _ _) rfl rfl (Nat.le_of_ble_eq_true rfl) d_Law_steersIn_109 ?_
            refine j_iinc hx [(2, .int ((nI i) + 1)), (1, .int (((lrn σ i).2) + (-1))), (3, .int (rg (((lrn σ i).1) (51 + 1)) 150 (nI i))), (0, .ref (G.1 50))] d_Law_steersIn_112 3 rfl rfl (by decide) rfl ?_
            refine j_goto (tgt := 4) hx d_Law_steersIn_115 (by decide) ?_
            refine J.lsub (ls' := [(0, .ref (G.1 50)), (1, .int (((lrn σ i).2) + (-1))), (2, .int ((nI i) + 1))]) [3, 1, 0] rfl ?_
            refine J.to ?_ ?_ (ih4 _ ?_ (i + 1) hlt4 rfl)
            · first | (first | exact (lrn_1 zc24).symm | exact (lrn_2 zc24 zc52).symm | exact (lrn_3 zc24 zc52).symm) | fail
            · first | (first | (rw [← nI_s, lrn_1b zc24]; done) | (rw [← nI_s, lrn_2b zc24 zc52]; done) | (rw [← nI_s, lrn_3b zc24 zc52]; done)) | fail
            · first | (omega) | fail
          · skip
            refine j_aload_n hx d_Law_steersIn_55 rfl 1 rfl ?_
            refine j_get hx ck_Law 3 (by decide) t_162 (by decide) (sh_50 _ _) rfl d_Law_steersIn_56 ?_
            refine j_iload_n hx d_Law_steersIn_59 rfl 2 rfl ?_
            refine j_aload_n hx d_Law_steersIn_60 rfl 1 rfl ?_
            refine j_get hx ck_Law 1 (by decide) t_160 (by decide) (sh_50 _ _) rfl d_Law_steersIn_61 ?_
            refine j_iload_n hx d_Law_steersIn_64 rfl 3 rfl ?_
            refine j_callVi hx (c_Row_getA hG ir_53 54 rfl ((lrn σ i).1) (nI i)) mo_Row_get mv_Row_get t_489 (by decide) rfl (by decide) (sh_53 _ _) rfl rfl (Nat.le_of_ble_eq_true rfl) d_Law_steersIn_65 ?_
            refine j_callVv hx (c_Row_set hG ir_57 ((lrn σ i).1) ((lrn σ i).2) (rg (((lrn σ i).1) (53 + 1)) 150 (nI i))) mo_Row_set mv_Row_set t_155 (by decide) rfl (by decide) (sh_57 _ _) rfl rfl (Nat.le_of_ble_eq_true rfl) d_Law_steersIn_68 ?_
            refine j_iinc hx [(1, .int (((lrn σ i).2) + 1)), (3, .int (rg (((lrn σ i).1) (51 + 1)) 150 (nI i))), (0, .ref (G.1 50)), (2, .int (nI i))] d_Law_steersIn_71 2 rfl rfl (by decide) rfl ?_
            refine j_goto (tgt := 112) hx d_Law_steersIn_74 (by decide) ?_
            refine j_iinc hx [(2, .int ((nI i) + 1)), (1, .int (((lrn σ i).2) + 1)), (3, .int (rg (((lrn σ i).1) (51 + 1)) 150 (nI i))), (0, .ref (G.1 50))] d_Law_steersIn_112 3 rfl rfl (by decide) rfl ?_
            refine j_goto (tgt := 4) hx d_Law_steersIn_115 (by decide) ?_
            refine J.lsub (ls' := [(0, .ref (G.1 50)), (1, .int (((lrn σ i).2) + 1)), (2, .int ((nI i) + 1))]) [3, 1, 0] rfl ?_
            refine J.to ?_ ?_ (ih4 _ ?_ (i + 1) hlt4 rfl)
            · first | (first | exact (lrn_1 zc24).symm | exact (lrn_2 zc24 zc52).symm | exact (lrn_3 zc24 zc52).symm) | fail
            · first | (first | (rw [← nI_s, lrn_1b zc24]; done) | (rw [← nI_s, lrn_2b zc24 zc52]; done) | (rw [← nI_s, lrn_3b zc24 zc52]; done)) | fail
            · first | (omega) | fail
        · skip
          refine j_aload_n hx d_Law_steersIn_27 rfl 1 rfl ?_
          refine j_get hx ck_Law 3 (by decide) t_162 (by decide) (sh_50 _ _) rfl d_Law_steersIn_28 ?_
          refine j_iload_n hx d_Law_steersIn_31 rfl 2 rfl ?_
          refine j_aload_n hx d_Law_steersIn_32 rfl 1 rfl ?_
          refine j_get hx ck_Law 2 (by decide) t_161 (by decide) (sh_50 _ _) rfl d_Law_steersIn_33 ?_
          refine j_iload_n hx d_Law_steersIn_36 rfl 0 rfl ?_
          refine j_callVi hx (c_Row_getA hG ir_55 56 rfl ((lrn σ i).1) (rg (((lrn σ i).1) (51 + 1)) 150 (nI i))) mo_Row_get mv_Row_get t_489 (by decide) rfl (by decide) (sh_55 _ _) rfl rfl (Nat.le_of_ble_eq_true rfl) d_Law_steersIn_37 ?_
          refine j_callVv hx (c_Row_set hG ir_57 ((lrn σ i).1) ((lrn σ i).2) (rg (((lrn σ i).1) (55 + 1)) 9 (rg (((lrn σ i).1) (51 + 1)) 150 (nI i)))) mo_Row_set mv_Row_set t_155 (by decide) rfl (by decide) (sh_57 _ _) rfl rfl (Nat.le_of_ble_eq_true rfl) d_Law_steersIn_40 ?_
          refine j_iinc hx [(1, .int (((lrn σ i).2) + 1)), (3, .int (rg (((lrn σ i).1) (51 + 1)) 150 (nI i))), (0, .ref (G.1 50)), (2, .int (nI i))] d_Law_steersIn_43 2 rfl rfl (by decide) rfl ?_
          refine j_goto (tgt := 112) hx d_Law_steersIn_46 (by decide) ?_
          refine j_iinc hx [(2, .int ((nI i) + 1)), (1, .int (((lrn σ i).2) + 1)), (3, .int (rg (((lrn σ i).1) (51 + 1)) 150 (nI i))), (0, .ref (G.1 50))] d_Law_steersIn_112 3 rfl rfl (by decide) rfl ?_
          refine j_goto (tgt := 4) hx d_Law_steersIn_115 (by decide) ?_
          refine J.lsub (ls' := [(0, .ref (G.1 50)), (1, .int (((lrn σ i).2) + 1)), (2, .int ((nI i) + 1))]) [3, 1, 0] rfl ?_
          refine J.to ?_ ?_ (ih4 _ ?_ (i + 1) hlt4 rfl)
          · first | (first | exact (lrn_1 zc24).symm | exact (lrn_2 zc24 zc52).symm | exact (lrn_3 zc24 zc52).symm) | fail
          · first | (first | (rw [← nI_s, lrn_1b zc24]; done) | (rw [← nI_s, lrn_2b zc24 zc52]; done) | (rw [← nI_s, lrn_3b zc24 zc52]; done)) | fail
          · first | (omega) | fail
  refine J.lsub (ls' := [(0, .ref (G.1 50)), (1, .int 0), (2, .int 0)]) [2, 1, 0] rfl ?_
  refine J.to ?_ ?_ (hl4 _ 0 (Nat.zero_le _) rfl)
  · first | (rfl) | fail
  · first | (rfl) | fail

set_option maxRecDepth 20000 in
set_option maxHeartbeats 4000000 in
theorem c_FlashLog_reset {l : Launch} {G : Gz} (hG : zI G) {o : Nat} (ho_o : isLog o) (σ : St) : MV l G y_FlashLog_reset prog_3_method_2_code 1 2 [.ref (G.1 (o))] σ (up (fl σ (o + 2) 60 (fun _ => 0)) o 1 0) := by
  refine MV.of hG (by decide) (Nat.le_of_ble_eq_true rfl) (fun X hx hq => ?_)
  show J l G X 1 σ 0 [(0, .ref (G.1 (o)))] []
  refine j_aload_n hx d_FlashLog_reset_0 rfl 0 rfl ?_
  refine j_get hx ck_FlashLog 0 (by decide) t_183 (by have := ho_o.1; omega) (ho_o.2.1 _ _) rfl d_FlashLog_reset_1 ?_
  refine j_callVv hx (c_Row_clear hG ho_o.2.2 σ) mo_Row_clear mv_Row_clear t_773 (by decide) rfl (by have := ho_o.2.2.1; omega) (ho_o.2.2.2.1 _ _) rfl rfl (Nat.le_of_ble_eq_true rfl) d_FlashLog_reset_4 ?_
  refine j_aload_n hx d_FlashLog_reset_7 rfl 0 rfl ?_
  refine j_iconst (v := 0) hx d_FlashLog_reset_8 (by decide) ?_
  refine j_put hx ck_FlashLog 1 (by decide) t_184 (by have := ho_o.1; omega) (ho_o.2.1 _ _) rfl (Nat.le_of_ble_eq_true rfl) (ho_o.2.1 _ _) d_FlashLog_reset_9 ?_
  exact j_vret hx hq d_FlashLog_reset_12 (by first | (first | rfl | (simp only []; done) | (simp []; done)) | fail)

set_option maxRecDepth 20000 in
set_option maxHeartbeats 4000000 in
theorem c_FlashLog_become {l : Launch} {G : Gz} (hG : zI G) {o : Nat} (ho_o : isLog o) {q : Nat} (ho_q : isLog q) (σ : St) : MV l G y_FlashLog_become prog_3_method_3_code 2 4 [.ref (G.1 (o)), .ref (G.1 (q))] σ (up (cpy σ (o + 1) 60 (q + 1) 60 0 0 (Int32.ofNat 60)) o 1 ((cpy σ (o + 1) 60 (q + 1) 60 0 0 (Int32.ofNat 60)) q 1)) := by
  refine MV.of hG (by decide) (Nat.le_of_ble_eq_true rfl) (fun X hx hq => ?_)
  show J l G X 2 σ 0 [(0, .ref (G.1 (o))), (1, .ref (G.1 (q)))] []
  refine j_aload_n hx d_FlashLog_become_0 rfl 0 rfl ?_
  refine j_get hx ck_FlashLog 0 (by decide) t_183 (by have := ho_o.1; omega) (ho_o.2.1 _ _) rfl d_FlashLog_become_1 ?_
  refine j_aload_n hx d_FlashLog_become_4 rfl 1 rfl ?_
  refine j_get hx ck_FlashLog 0 (by decide) t_183 (by have := ho_q.1; omega) (ho_q.2.1 _ _) rfl d_FlashLog_become_5 ?_
  refine j_callVv hx (c_Row_become hG ho_o.2.2 ho_q.2.2 σ) mo_Row_become mv_Row_become t_963 (by decide) rfl (by have := ho_o.2.2.1; omega) (ho_o.2.2.2.1 _ _) rfl rfl (Nat.le_of_ble_eq_true rfl) d_FlashLog_become_8 ?_
  refine j_aload_n hx d_FlashLog_become_11 rfl 0 rfl ?_
  refine j_aload_n hx d_FlashLog_become_12 rfl 1 rfl ?_
  refine j_get hx ck_FlashLog 1 (by decide) t_184 (by have := ho_q.1; omega) (ho_q.2.1 _ _) rfl d_FlashLog_become_13 ?_
  refine j_put hx ck_FlashLog 1 (by decide) t_184 (by have := ho_o.1; omega) (ho_o.2.1 _ _) rfl (Nat.le_of_ble_eq_true rfl) (ho_o.2.1 _ _) d_FlashLog_become_16 ?_
  exact j_vret hx hq d_FlashLog_become_19 (by first | (first | rfl | (simp only []; done) | (simp []; done)) | fail)

set_option maxRecDepth 20000 in
set_option maxHeartbeats 4000000 in
theorem c_FlashLog_lines {l : Launch} {G : Gz} (hG : zI G) {o : Nat} (ho_o : isLog o) (σ : St) : MI l G y_FlashLog_lines prog_3_method_4_code 1 .int 1 [.ref (G.1 (o))] σ (σ o 1) σ := by
  refine MI.of hG (by decide) (Nat.le_of_ble_eq_true rfl) (fun X hx hq => ?_)
  show J l G X 1 σ 0 [(0, .ref (G.1 (o)))] []
  refine j_aload_n hx d_FlashLog_lines_0 rfl 0 rfl ?_
  refine j_get hx ck_FlashLog 1 (by decide) t_184 (by have := ho_o.1; omega) (ho_o.2.1 _ _) rfl d_FlashLog_lines_1 ?_
  exact j_iret hx hq rfl d_FlashLog_lines_4 (by first | (first | rfl | (simp only []; done) | (simp []; done)) | fail) (by first | (first | rfl | (simp only []; done) | (simp []; done)) | fail)

set_option maxRecDepth 20000 in
set_option maxHeartbeats 4000000 in
theorem c_FlashLog_isFit {l : Launch} {G : Gz} (hG : zI G) (σ : St) (p : Int32) (a : Int32) : MI l G y_FlashLog_isFit prog_3_method_7_code 5 .boolean 2 [.ref (G.1 68), .int p, .int a] σ (b2 (fit σ p a)) σ := by
  refine MI.of hG (by decide) (Nat.le_of_ble_eq_true rfl) (fun X hx hq => ?_)
  show J l G X 5 σ 0 [(0, .ref (G.1 68)), (1, .int p), (2, .int a)] []
  refine j_iconst (v := 0) hx d_FlashLog_isFit_0 (by decide) ?_
  refine j_istore_n hx [(3, .int 0), (0, .ref (G.1 68)), (1, .int p), (2, .int a)] d_FlashLog_isFit_1 rfl (by decide) rfl ?_
  have hl2 : ∀ (N9 : Nat) (i : Nat), (i ≤ 60) → (∀ m, m < i → ¬ lgF σ p a m) → 60 - i = N9 → J l G X 5 σ 2 [(0, .ref (G.1 68)), (1, .int p), (2, .int a), (3, .int (nI i))] [] := by
    intro N9
    induction N9 using Nat.strongRecOn with
    | _ N9 ih2 =>
      intro i hi_i hb hm2
      refine j_iload_n hx d_FlashLog_isFit_2 rfl 3 rfl ?_
      refine j_bipush (v := 60) hx d_FlashLog_isFit_3 (by decide) ?_
      refine j_icmp_ge (tgt := 45) hx d_FlashLog_isFit_5 (by decide) (fun zc5 => ?_) (fun zc5 => ?_)
      · skip
        obtain rfl := nt_end (n := 60) hi_i (by decide) zc5
        refine j_iconst (v := 1) hx d_FlashLog_isFit_45 (by decide) ?_
        exact j_iret hx hq rfl d_FlashLog_isFit_46 (by first | (first | exact (b2_t (p := fit σ p a) hb).symm | exact (b2_f (p := fit σ p a) (fun z => z i hlt2 (zc34.trans (if_pos zc14).symm))).symm | exact (b2_f (p := fit σ p a) (fun z => z i hlt2 (zc34.trans (if_neg zc14).symm))).symm) | fail) (by first | (first | rfl | (simp only [zc5]; done) | (simp [zc5]; done)) | fail)
      · skip
        have hlt2 := nt_go (n := 60) hi_i (by decide) zc5
        refine j_iload_n hx d_FlashLog_isFit_8 rfl 3 rfl ?_
        refine j_iload_n hx d_FlashLog_isFit_9 rfl 1 rfl ?_
        refine j_callNi hx (c_DL_left hG σ (nI i) p) mo_DL_left t_1113 t_1186 (by decide) rfl rfl (Nat.le_of_ble_eq_true rfl) d_FlashLog_isFit_10 ?_
        refine j_iload_n hx d_FlashLog_isFit_13 rfl 2 rfl ?_
        refine j_icmp_ne (tgt := 21) hx d_FlashLog_isFit_14 (by decide) (fun zc14 => ?_) (fun zc14 => ?_)
        · skip
          refine j_iconst (v := 2) hx d_FlashLog_isFit_21 (by decide) ?_
          refine j_istore hx [(4, .int 2), (0, .ref (G.1 68)), (1, .int p), (2, .int a), (3, .int (nI i))] d_FlashLog_isFit_22 (by decide) rfl ?_
          refine j_aload_n hx d_FlashLog_isFit_24 rfl 1 rfl ?_
          refine j_get hx ck_FlashLog 0 (by decide) t_183 (by decide) (sh_68 _ _) rfl d_FlashLog_isFit_25 ?_
          refine j_iload_n hx d_FlashLog_isFit_28 rfl 4 rfl ?_
          refine j_callVi hx (c_Row_getA hG ir_69 70 rfl σ (nI i)) mo_Row_get mv_Row_get t_954 (by decide) rfl (by decide) (sh_69 _ _) rfl rfl (Nat.le_of_ble_eq_true rfl) d_FlashLog_isFit_29 ?_
          refine j_iload hx d_FlashLog_isFit_32 0 rfl ?_
          refine j_icmp_ne (tgt := 39) hx d_FlashLog_isFit_34 (by decide) (fun zc34 => ?_) (fun zc34 => ?_)
          · skip
            refine j_iinc hx [(3, .int ((nI i) + 1)), (4, .int 2), (0, .ref (G.1 68)), (1, .int p), (2, .int a)] d_FlashLog_isFit_39 4 rfl rfl (by decide) rfl ?_
            refine j_goto (tgt := 2) hx d_FlashLog_isFit_42 (by decide) ?_
            refine J.lsub (ls' := [(0, .ref (G.1 68)), (1, .int p), (2, .int a), (3, .int ((nI i) + 1))]) [2, 3, 4, 0] rfl ?_
            refine J.to ?_ ?_ (ih2 _ ?_ (i + 1) hlt2 (all_s hb (by first | exact (fun z => zc34 (z.trans (if_pos zc14))) | exact (fun z => zc34 (z.trans (if_neg zc14))))) rfl)
            · first | (first | rfl | (simp [zc5, zc14, zc34]; done)) | fail
            · first | (simp only [nI_s]) | fail
            · first | (omega) | fail
          · skip
            refine j_iconst (v := 0) hx d_FlashLog_isFit_37 (by decide) ?_
            exact j_iret hx hq rfl d_FlashLog_isFit_38 (by first | (first | exact (b2_t (p := fit σ p a) hb).symm | exact (b2_f (p := fit σ p a) (fun z => z i hlt2 (zc34.trans (if_pos zc14).symm))).symm | exact (b2_f (p := fit σ p a) (fun z => z i hlt2 (zc34.trans (if_neg zc14).symm))).symm) | fail) (by first | (first | rfl | (simp only [zc5, zc14, zc34]; done) | (simp [zc5, zc14, zc34]; done)) | fail)
        · skip
          refine j_iconst (v := 1) hx d_FlashLog_isFit_17 (by decide) ?_
          refine j_goto (tgt := 22) hx d_FlashLog_isFit_18 (by decide) ?_
          refine j_istore hx [(4, .int 1), (0, .ref (G.1 68)), (1, .int p), (2, .int a), (3, .int (nI i))] d_FlashLog_isFit_22 (by decide) rfl ?_
          refine j_aload_n hx d_FlashLog_isFit_24 rfl 1 rfl ?_
          refine j_get hx ck_FlashLog 0 (by decide) t_183 (by decide) (sh_68 _ _) rfl d_FlashLog_isFit_25 ?_
          refine j_iload_n hx d_FlashLog_isFit_28 rfl 4 rfl ?_
          refine j_callVi hx (c_Row_getA hG ir_69 70 rfl σ (nI i)) mo_Row_get mv_Row_get t_954 (by decide) rfl (by decide) (sh_69 _ _) rfl rfl (Nat.le_of_ble_eq_true rfl) d_FlashLog_isFit_29 ?_
          refine j_iload hx d_FlashLog_isFit_32 0 rfl ?_
          refine j_icmp_ne (tgt := 39) hx d_FlashLog_isFit_34 (by decide) (fun zc34 => ?_) (fun zc34 => ?_)
          · skip
            refine j_iinc hx [(3, .int ((nI i) + 1)), (4, .int 1), (0, .ref (G.1 68)), (1, .int p), (2, .int a)] d_FlashLog_isFit_39 4 rfl rfl (by decide) rfl ?_
            refine j_goto (tgt := 2) hx d_FlashLog_isFit_42 (by decide) ?_
            refine J.lsub (ls' := [(0, .ref (G.1 68)), (1, .int p), (2, .int a), (3, .int ((nI i) + 1))]) [2, 3, 4, 0] rfl ?_
            refine J.to ?_ ?_ (ih2 _ ?_ (i + 1) hlt2 (all_s hb (by first | exact (fun z => zc34 (z.trans (if_pos zc14))) | exact (fun z => zc34 (z.trans (if_neg zc14))))) rfl)
            · first | (first | rfl | (simp [zc5, zc14, zc34]; done)) | fail
            · first | (simp only [nI_s]) | fail
            · first | (omega) | fail
          · skip
            refine j_iconst (v := 0) hx d_FlashLog_isFit_37 (by decide) ?_
            exact j_iret hx hq rfl d_FlashLog_isFit_38 (by first | (first | exact (b2_t (p := fit σ p a) hb).symm | exact (b2_f (p := fit σ p a) (fun z => z i hlt2 (zc34.trans (if_pos zc14).symm))).symm | exact (b2_f (p := fit σ p a) (fun z => z i hlt2 (zc34.trans (if_neg zc14).symm))).symm) | fail) (by first | (first | rfl | (simp only [zc5, zc14, zc34]; done) | (simp [zc5, zc14, zc34]; done)) | fail)
  refine J.lsub (ls' := [(0, .ref (G.1 68)), (1, .int p), (2, .int a), (3, .int 0)]) [1, 2, 3, 0] rfl ?_
  refine J.to ?_ ?_ (hl2 _ 0 (Nat.zero_le _) (fun c h => absurd h (Nat.not_lt_zero c)) rfl)
  · first | (first | rfl | (simp []; done)) | fail
  · first | (first | rfl | (simp only [nI_s]; done) | (simp only [nI_s, it_s]; done) | (simp [nI_s, it_s, ]; done)) | fail

set_option maxRecDepth 20000 in
set_option maxHeartbeats 4000000 in
theorem c_FlashLog_fitting {l : Launch} {G : Gz} (hG : zI G) (σ : St) : MI l G y_FlashLog_fitting prog_3_method_8_code 4 .int 3 [.ref (G.1 68)] σ (ftP σ 9) σ := by
  refine MI.of hG (by decide) (Nat.le_of_ble_eq_true rfl) (fun X hx hq => ?_)
  show J l G X 4 σ 0 [(0, .ref (G.1 68))] []
  refine j_iconst (v := 0) hx d_FlashLog_fitting_0 (by decide) ?_
  refine j_istore_n hx [(1, .int 0), (0, .ref (G.1 68))] d_FlashLog_fitting_1 rfl (by decide) rfl ?_
  refine j_iconst (v := 1) hx d_FlashLog_fitting_2 (by decide) ?_
  refine j_istore_n hx [(2, .int 1), (1, .int 0), (0, .ref (G.1 68))] d_FlashLog_fitting_3 rfl (by decide) rfl ?_
  have hl4 : ∀ (N9 : Nat) (i : Nat), (i ≤ 9) → 9 - i = N9 → J l G X 4 σ 4 [(0, .ref (G.1 68)), (1, .int (ftP σ i)), (2, .int (nI (i + 1)))] [] := by
    intro N9
    induction N9 using Nat.strongRecOn with
    | _ N9 ih4 =>
      intro i hi_i hm4
      refine j_iload_n hx d_FlashLog_fitting_4 rfl 2 rfl ?_
      refine j_bipush (v := 9) hx d_FlashLog_fitting_5 (by decide) ?_
      refine j_icmp_gt (tgt := 46) hx d_FlashLog_fitting_7 (by decide) (fun zc7 => ?_) (fun zc7 => ?_)
      · skip
        obtain rfl := gt_end (n := 9) hi_i (by decide) zc7
        refine j_iload_n hx d_FlashLog_fitting_46 rfl 1 rfl ?_
        exact j_iret hx hq rfl d_FlashLog_fitting_47 (by first | (first | rfl | (simp only [zc7]; done) | (simp [zc7]; done)) | fail) (by first | (first | rfl | (simp only [zc7]; done) | (simp [zc7]; done)) | fail)
      · skip
        have hlt4 := gt_go (n := 9) hi_i (by decide) zc7
        refine j_iconst (v := 0) hx d_FlashLog_fitting_10 (by decide) ?_
        refine j_istore_n hx [(3, .int 0), (0, .ref (G.1 68)), (1, .int (ftP σ i)), (2, .int (nI (i + 1)))] d_FlashLog_fitting_11 rfl (by decide) rfl ?_
        have hl12 : ∀ (N9 : Nat) (j : Nat), (j ≤ (i + 1)) → (i + 1) - j = N9 → J l G X 4 σ 12 [(0, .ref (G.1 68)), (1, .int (ftA σ i j (ftP σ i))), (2, .int (nI (i + 1))), (3, .int (nI j))] [] := by
          intro N9
          induction N9 using Nat.strongRecOn with
          | _ N9 ih12 =>
            intro j hi_j hm12
            refine j_iload_n hx d_FlashLog_fitting_12 rfl 3 rfl ?_
            refine j_iload_n hx d_FlashLog_fitting_13 rfl 2 rfl ?_
            refine j_icmp_ge (tgt := 40) hx d_FlashLog_fitting_14 (by decide) (fun zc14 => ?_) (fun zc14 => ?_)
            · skip
              obtain rfl := nt_end (n := i + 1) hi_j (by omega) zc14
              refine j_iinc hx [(2, .int ((nI (i + 1)) + 1)), (0, .ref (G.1 68)), (1, .int (ftA σ i (i + 1) (ftP σ i))), (3, .int (nI (i + 1)))] d_FlashLog_fitting_40 2 rfl rfl (by decide) rfl ?_
              refine j_goto (tgt := 4) hx d_FlashLog_fitting_43 (by decide) ?_
              refine J.lsub (ls' := [(0, .ref (G.1 68)), (1, .int (ftA σ i (i + 1) (ftP σ i))), (2, .int ((nI (i + 1)) + 1))]) [1, 2, 0] rfl ?_
              refine J.to ?_ ?_ (ih4 _ ?_ (i + 1) hlt4 rfl)
              · first | (first | rfl | (simp [zc7, zc14]; done)) | fail
              · first | (simp only [nI_s]; rfl) | fail
              · first | (omega) | fail
            · skip
              have hlt12 := nt_go (n := i + 1) hi_j (by omega) zc14
              refine j_iload_n hx d_FlashLog_fitting_17 rfl 1 rfl ?_
              refine j_aload_n hx d_FlashLog_fitting_18 rfl 0 rfl ?_
              refine j_iload_n hx d_FlashLog_fitting_19 rfl 2 rfl ?_
              refine j_iload_n hx d_FlashLog_fitting_20 rfl 3 rfl ?_
              refine j_callVi hx (c_FlashLog_isFit hG σ (nI (i + 1)) (nI j)) mo_FlashLog_isFit mv_FlashLog_isFit t_1182 (by decide) rfl (by decide) (sh_68 _ _) rfl rfl (Nat.le_of_ble_eq_true rfl) d_FlashLog_fitting_21 ?_
              refine j_if_eq (tgt := 31) hx d_FlashLog_fitting_24 (by decide) (fun zc24 => ?_) (fun zc24 => ?_)
              · skip
                refine j_iconst (v := 0) hx d_FlashLog_fitting_31 (by decide) ?_
                refine j_iadd hx d_FlashLog_fitting_32 ?_
                refine j_istore_n hx [(1, .int ((ftA σ i j (ftP σ i)) + 0)), (0, .ref (G.1 68)), (2, .int (nI (i + 1))), (3, .int (nI j))] d_FlashLog_fitting_33 rfl (by decide) rfl ?_
                refine j_iinc hx [(3, .int ((nI j) + 1)), (1, .int ((ftA σ i j (ftP σ i)) + 0)), (0, .ref (G.1 68)), (2, .int (nI (i + 1)))] d_FlashLog_fitting_34 3 rfl rfl (by decide) rfl ?_
                refine j_goto (tgt := 12) hx d_FlashLog_fitting_37 (by decide) ?_
                refine J.lsub (ls' := [(0, .ref (G.1 68)), (1, .int ((ftA σ i j (ftP σ i)) + 0)), (2, .int (nI (i + 1))), (3, .int ((nI j) + 1))]) [2, 1, 3, 0] rfl ?_
                refine J.to ?_ ?_ (ih12 _ ?_ (j + 1) hlt12 rfl)
                · first | (first | rfl | (simp [zc7, zc14, zc24]; done)) | fail
                · first | (simp only [nI_s]; first | (rw [show ftA σ i (j + 1) (ftP σ i) = ftA σ i j (ftP σ i) + b2 (fit σ (nI (i + 1)) (nI j)) from rfl, zc24]; done) | (rw [show ftA σ i (j + 1) (ftP σ i) = ftA σ i j (ftP σ i) + b2 (fit σ (nI (i + 1)) (nI j)) from rfl, b2_n0 zc24]; done)) | fail
                · first | (omega) | fail
              · skip
                refine j_iconst (v := 1) hx d_FlashLog_fitting_27 (by decide) ?_
                refine j_goto (tgt := 32) hx d_FlashLog_fitting_28 (by decide) ?_
                refine j_iadd hx d_FlashLog_fitting_32 ?_
                refine j_istore_n hx [(1, .int ((ftA σ i j (ftP σ i)) + 1)), (0, .ref (G.1 68)), (2, .int (nI (i + 1))), (3, .int (nI j))] d_FlashLog_fitting_33 rfl (by decide) rfl ?_
                refine j_iinc hx [(3, .int ((nI j) + 1)), (1, .int ((ftA σ i j (ftP σ i)) + 1)), (0, .ref (G.1 68)), (2, .int (nI (i + 1)))] d_FlashLog_fitting_34 3 rfl rfl (by decide) rfl ?_
                refine j_goto (tgt := 12) hx d_FlashLog_fitting_37 (by decide) ?_
                refine J.lsub (ls' := [(0, .ref (G.1 68)), (1, .int ((ftA σ i j (ftP σ i)) + 1)), (2, .int (nI (i + 1))), (3, .int ((nI j) + 1))]) [2, 1, 3, 0] rfl ?_
                refine J.to ?_ ?_ (ih12 _ ?_ (j + 1) hlt12 rfl)
                · first | (first | rfl | (simp [zc7, zc14, zc24]; done)) | fail
                · first | (simp only [nI_s]; first | (rw [show ftA σ i (j + 1) (ftP σ i) = ftA σ i j (ftP σ i) + b2 (fit σ (nI (i + 1)) (nI j)) from rfl, zc24]; done) | (rw [show ftA σ i (j + 1) (ftP σ i) = ftA σ i j (ftP σ i) + b2 (fit σ (nI (i + 1)) (nI j)) from rfl, b2_n0 zc24]; done)) | fail
                · first | (omega) | fail
        refine J.lsub (ls' := [(0, .ref (G.1 68)), (1, .int (ftP σ i)), (2, .int (nI (i + 1))), (3, .int 0)]) [1, 2, 3, 0] rfl ?_
        refine J.to ?_ ?_ (hl12 _ 0 (Nat.zero_le _) rfl)
        · first | (first | rfl | (simp [zc7]; done)) | fail
        · first | (first | rfl | (simp only [nI_s]; done) | (simp only [nI_s, it_s]; done) | (simp [nI_s, it_s, zc7]; done)) | fail
  refine J.lsub (ls' := [(0, .ref (G.1 68)), (1, .int 0), (2, .int 1)]) [2, 1, 0] rfl ?_
  refine J.to ?_ ?_ (hl4 _ 0 (Nat.zero_le _) rfl)
  · first | (first | rfl | (simp []; done)) | fail
  · first | (first | rfl | (simp only [nI_s]; done) | (simp only [nI_s, it_s]; done) | (simp [nI_s, it_s, ]; done)) | fail

set_option maxRecDepth 20000 in
set_option maxHeartbeats 4000000 in
theorem c_FlashLog_firstFit {l : Launch} {G : Gz} (hG : zI G) (σ : St) : MI l G y_FlashLog_firstFit prog_3_method_9_code 3 .int 3 [.ref (G.1 68)] σ (ffF σ) σ := by
  refine MI.of hG (by decide) (Nat.le_of_ble_eq_true rfl) (fun X hx hq => ?_)
  show J l G X 3 σ 0 [(0, .ref (G.1 68))] []
  refine j_iconst (v := 1) hx d_FlashLog_firstFit_0 (by decide) ?_
  refine j_istore_n hx [(1, .int 1), (0, .ref (G.1 68))] d_FlashLog_firstFit_1 rfl (by decide) rfl ?_
  have hl2 : ∀ (N9 : Nat) (i : Nat), (i ≤ 9) → (fnd (ffP σ) i = none) → 9 - i = N9 → J l G X 3 σ 2 [(0, .ref (G.1 68)), (1, .int (nI (i + 1)))] [] := by
    intro N9
    induction N9 using Nat.strongRecOn with
    | _ N9 ih2 =>
      intro i hi_i hf hm2
      refine j_iload_n hx d_FlashLog_firstFit_2 rfl 1 rfl ?_
      refine j_bipush (v := 9) hx d_FlashLog_firstFit_3 (by decide) ?_
      refine j_icmp_gt (tgt := 43) hx d_FlashLog_firstFit_5 (by decide) (fun zc5 => ?_) (fun zc5 => ?_)
      · skip
        obtain rfl := gt_end (n := 9) hi_i (by decide) zc5
        refine j_iconst (v := (-1)) hx d_FlashLog_firstFit_43 (by decide) ?_
        exact j_iret hx hq rfl d_FlashLog_firstFit_44 (by first | (first | (unfold ffF; rw [hf]; rfl) | (unfold ffF; rw [fnd_at hf (fnd_at hg (if_pos (b2_nz zc21)) hlt10) hlt2]; rfl)) | fail) (by first | (first | rfl | (simp only [zc5]; done) | (simp [zc5]; done)) | fail)
      · skip
        have hlt2 := gt_go (n := 9) hi_i (by decide) zc5
        refine j_iconst (v := 0) hx d_FlashLog_firstFit_8 (by decide) ?_
        refine j_istore_n hx [(2, .int 0), (0, .ref (G.1 68)), (1, .int (nI (i + 1)))] d_FlashLog_firstFit_9 rfl (by decide) rfl ?_
        have hl10 : ∀ (N9 : Nat) (j : Nat), (j ≤ i + 1) → (fnd (ffA σ i) j = none) → (i + 1) - j = N9 → J l G X 3 σ 10 [(0, .ref (G.1 68)), (1, .int (nI (i + 1))), (2, .int (nI j))] [] := by
          intro N9
          induction N9 using Nat.strongRecOn with
          | _ N9 ih10 =>
            intro j hi_j hg hm10
            refine j_iload_n hx d_FlashLog_firstFit_10 rfl 2 rfl ?_
            refine j_iload_n hx d_FlashLog_firstFit_11 rfl 1 rfl ?_
            refine j_icmp_ge (tgt := 37) hx d_FlashLog_firstFit_12 (by decide) (fun zc12 => ?_) (fun zc12 => ?_)
            · skip
              obtain rfl := nt_end (n := i + 1) hi_j (by omega) zc12
              refine j_iinc hx [(1, .int ((nI (i + 1)) + 1)), (0, .ref (G.1 68)), (2, .int (nI (i + 1)))] d_FlashLog_firstFit_37 1 rfl rfl (by decide) rfl ?_
              refine j_goto (tgt := 2) hx d_FlashLog_firstFit_40 (by decide) ?_
              refine J.lsub (ls' := [(0, .ref (G.1 68)), (1, .int ((nI (i + 1)) + 1))]) [1, 0] rfl ?_
              refine J.to ?_ ?_ (ih2 _ ?_ (i + 1) hlt2 ((fnd_s hf).trans hg) rfl)
              · first | (first | rfl | (simp [zc5, zc12]; done)) | fail
              · first | (simp only [nI_s]) | fail
              · first | (omega) | fail
            · skip
              have hlt10 := nt_go (n := i + 1) hi_j (by omega) zc12
              refine j_aload_n hx d_FlashLog_firstFit_15 rfl 0 rfl ?_
              refine j_iload_n hx d_FlashLog_firstFit_16 rfl 1 rfl ?_
              refine j_iload_n hx d_FlashLog_firstFit_17 rfl 2 rfl ?_
              refine j_callVi hx (c_FlashLog_isFit hG σ (nI (i + 1)) (nI j)) mo_FlashLog_isFit mv_FlashLog_isFit t_1182 (by decide) rfl (by decide) (sh_68 _ _) rfl rfl (Nat.le_of_ble_eq_true rfl) d_FlashLog_firstFit_18 ?_
              refine j_if_eq (tgt := 31) hx d_FlashLog_firstFit_21 (by decide) (fun zc21 => ?_) (fun zc21 => ?_)
              · skip
                refine j_iinc hx [(2, .int ((nI j) + 1)), (0, .ref (G.1 68)), (1, .int (nI (i + 1)))] d_FlashLog_firstFit_31 2 rfl rfl (by decide) rfl ?_
                refine j_goto (tgt := 10) hx d_FlashLog_firstFit_34 (by decide) ?_
                refine J.lsub (ls' := [(0, .ref (G.1 68)), (1, .int (nI (i + 1))), (2, .int ((nI j) + 1))]) [1, 2, 0] rfl ?_
                refine J.to ?_ ?_ (ih10 _ ?_ (j + 1) hlt10 ((fnd_s hg).trans (if_neg (b2_z zc21))) rfl)
                · first | (first | rfl | (simp [zc5, zc12, zc21]; done)) | fail
                · first | (simp only [nI_s]) | fail
                · first | (omega) | fail
              · skip
                refine j_bipush (v := 10) hx d_FlashLog_firstFit_24 (by decide) ?_
                refine j_iload_n hx d_FlashLog_firstFit_26 rfl 1 rfl ?_
                refine j_imul hx d_FlashLog_firstFit_27 ?_
                refine j_iload_n hx d_FlashLog_firstFit_28 rfl 2 rfl ?_
                refine j_iadd hx d_FlashLog_firstFit_29 ?_
                exact j_iret hx hq rfl d_FlashLog_firstFit_30 (by first | (first | (unfold ffF; rw [hf]; rfl) | (unfold ffF; rw [fnd_at hf (fnd_at hg (if_pos (b2_nz zc21)) hlt10) hlt2]; rfl)) | fail) (by first | (first | rfl | (simp only [zc5, zc12, zc21]; done) | (simp [zc5, zc12, zc21]; done)) | fail)
        refine J.lsub (ls' := [(0, .ref (G.1 68)), (1, .int (nI (i + 1))), (2, .int 0)]) [1, 2, 0] rfl ?_
        refine J.to ?_ ?_ (hl10 _ 0 (Nat.zero_le _) rfl rfl)
        · first | (first | rfl | (simp [zc5]; done)) | fail
        · first | (first | rfl | (simp only [nI_s]; done) | (simp only [nI_s, it_s]; done) | (simp [nI_s, it_s, zc5]; done)) | fail
  refine J.lsub (ls' := [(0, .ref (G.1 68)), (1, .int 1)]) [1, 0] rfl ?_
  refine J.to ?_ ?_ (hl2 _ 0 (Nat.zero_le _) rfl rfl)
  · first | (first | rfl | (simp []; done)) | fail
  · first | (first | rfl | (simp only [nI_s]; done) | (simp only [nI_s, it_s]; done) | (simp [nI_s, it_s, ]; done)) | fail

set_option maxRecDepth 20000 in
set_option maxHeartbeats 4000000 in
theorem c_FlashLog_leftAtWorst {l : Launch} {G : Gz} (hG : zI G) (σ : St) (m : Int32) : MI l G y_FlashLog_leftAtWorst prog_3_method_11_code 6 .int 3 [.ref (G.1 68), .int m] σ (lwV σ m) σ := by
  refine MI.of hG (by decide) (Nat.le_of_ble_eq_true rfl) (fun X hx hq => ?_)
  show J l G X 6 σ 0 [(0, .ref (G.1 68)), (1, .int m)] []
  refine j_iconst (v := 0) hx d_FlashLog_leftAtWorst_0 (by decide) ?_
  refine j_istore_n hx [(2, .int 0), (0, .ref (G.1 68)), (1, .int m)] d_FlashLog_leftAtWorst_1 rfl (by decide) rfl ?_
  refine j_iconst (v := 0) hx d_FlashLog_leftAtWorst_2 (by decide) ?_
  refine j_istore_n hx [(3, .int 0), (2, .int 0), (0, .ref (G.1 68)), (1, .int m)] d_FlashLog_leftAtWorst_3 rfl (by decide) rfl ?_
  refine j_iconst (v := 1) hx d_FlashLog_leftAtWorst_4 (by decide) ?_
  refine j_istore hx [(4, .int 1), (3, .int 0), (2, .int 0), (0, .ref (G.1 68)), (1, .int m)] d_FlashLog_leftAtWorst_5 (by decide) rfl ?_
  have hl7 : ∀ (N9 : Nat) (i : Nat), (i ≤ 9) → 9 - i = N9 → J l G X 6 σ 7 [(0, .ref (G.1 68)), (1, .int m), (2, .int ((lwW σ m i).1)), (3, .int ((lwW σ m i).2)), (4, .int (nI (i + 1)))] [] := by
    intro N9
    induction N9 using Nat.strongRecOn with
    | _ N9 ih7 =>
      intro i hi_i hm7
      refine j_iload hx d_FlashLog_leftAtWorst_7 4 rfl ?_
      refine j_bipush (v := 9) hx d_FlashLog_leftAtWorst_9 (by decide) ?_
      refine j_icmp_gt (tgt := 70) hx d_FlashLog_leftAtWorst_11 (by decide) (fun zc11 => ?_) (fun zc11 => ?_)
      · skip
        obtain rfl := gt_end (n := 9) hi_i (by decide) zc11
        refine j_iload_n hx d_FlashLog_leftAtWorst_70 rfl 2 rfl ?_
        refine j_iload_n hx d_FlashLog_leftAtWorst_71 rfl 3 rfl ?_
        refine j_mmax hx t_1206 (by decide) (Nat.le_of_ble_eq_true rfl) d_FlashLog_leftAtWorst_72 ?_
        exact j_iret hx hq rfl d_FlashLog_leftAtWorst_75 (by first | (rfl) | fail) (by first | (first | rfl | (simp only [zc11]; done) | (simp [zc11]; done)) | fail)
      · skip
        have hlt7 := gt_go (n := 9) hi_i (by decide) zc11
        refine j_iconst (v := 0) hx d_FlashLog_leftAtWorst_14 (by decide) ?_
        refine j_istore hx [(5, .int 0), (0, .ref (G.1 68)), (1, .int m), (2, .int ((lwW σ m i).1)), (3, .int ((lwW σ m i).2)), (4, .int (nI (i + 1)))] d_FlashLog_leftAtWorst_15 (by decide) rfl ?_
        have hl17 : ∀ (N9 : Nat) (j : Nat), (j ≤ (i + 1)) → (i + 1) - j = N9 → J l G X 6 σ 17 [(0, .ref (G.1 68)), (1, .int m), (2, .int ((lwA σ m i j (lwW σ m i)).1)), (3, .int ((lwA σ m i j (lwW σ m i)).2)), (4, .int (nI (i + 1))), (5, .int (nI j))] [] := by
          intro N9
          induction N9 using Nat.strongRecOn with
          | _ N9 ih17 =>
            intro j hi_j hm17
            refine j_iload hx d_FlashLog_leftAtWorst_17 5 rfl ?_
            refine j_iload hx d_FlashLog_leftAtWorst_19 4 rfl ?_
            refine j_icmp_ge (tgt := 64) hx d_FlashLog_leftAtWorst_21 (by decide) (fun zc21 => ?_) (fun zc21 => ?_)
            · skip
              obtain rfl := nt_end (n := i + 1) hi_j (by omega) zc21
              refine j_iinc hx [(4, .int ((nI (i + 1)) + 1)), (0, .ref (G.1 68)), (1, .int m), (2, .int ((lwA σ m i (i + 1) (lwW σ m i)).1)), (3, .int ((lwA σ m i (i + 1) (lwW σ m i)).2)), (5, .int (nI (i + 1)))] d_FlashLog_leftAtWorst_64 4 rfl rfl (by decide) rfl ?_
              refine j_goto (tgt := 7) hx d_FlashLog_leftAtWorst_67 (by decide) ?_
              refine J.lsub (ls' := [(0, .ref (G.1 68)), (1, .int m), (2, .int ((lwA σ m i (i + 1) (lwW σ m i)).1)), (3, .int ((lwA σ m i (i + 1) (lwW σ m i)).2)), (4, .int ((nI (i + 1)) + 1))]) [1, 2, 3, 4, 0] rfl ?_
              refine J.to ?_ ?_ (ih7 _ ?_ (i + 1) hlt7 rfl)
              · first | (first | rfl | (simp [zc11, zc21]; done)) | fail
              · first | (simp only [nI_s]; rfl) | fail
              · first | (omega) | fail
            · skip
              have hlt17 := nt_go (n := i + 1) hi_j (by omega) zc21
              refine j_aload_n hx d_FlashLog_leftAtWorst_24 rfl 0 rfl ?_
              refine j_iload hx d_FlashLog_leftAtWorst_25 4 rfl ?_
              refine j_iload hx d_FlashLog_leftAtWorst_27 5 rfl ?_
              refine j_callVi hx (c_FlashLog_isFit hG σ (nI (i + 1)) (nI j)) mo_FlashLog_isFit mv_FlashLog_isFit t_1182 (by decide) rfl (by decide) (sh_68 _ _) rfl rfl (Nat.le_of_ble_eq_true rfl) d_FlashLog_leftAtWorst_29 ?_
              refine j_if_ne (tgt := 38) hx d_FlashLog_leftAtWorst_32 (by decide) (fun zc32 => ?_) (fun zc32 => ?_)
              · skip
                refine j_iload_n hx d_FlashLog_leftAtWorst_38 rfl 1 rfl ?_
                refine j_iload hx d_FlashLog_leftAtWorst_39 4 rfl ?_
                refine j_callNi hx (c_DL_left hG σ m (nI (i + 1))) mo_DL_left t_1113 t_1186 (by decide) rfl rfl (Nat.le_of_ble_eq_true rfl) d_FlashLog_leftAtWorst_41 ?_
                refine j_iload hx d_FlashLog_leftAtWorst_44 5 rfl ?_
                refine j_icmp_ne (tgt := 55) hx d_FlashLog_leftAtWorst_46 (by decide) (fun zc46 => ?_) (fun zc46 => ?_)
                · skip
                  refine j_iinc hx [(3, .int (((lwA σ m i j (lwW σ m i)).2) + 1)), (0, .ref (G.1 68)), (1, .int m), (2, .int ((lwA σ m i j (lwW σ m i)).1)), (4, .int (nI (i + 1))), (5, .int (nI j))] d_FlashLog_leftAtWorst_55 3 rfl rfl (by decide) rfl ?_
                  refine j_iinc hx [(5, .int ((nI j) + 1)), (3, .int (((lwA σ m i j (lwW σ m i)).2) + 1)), (0, .ref (G.1 68)), (1, .int m), (2, .int ((lwA σ m i j (lwW σ m i)).1)), (4, .int (nI (i + 1)))] d_FlashLog_leftAtWorst_58 5 rfl rfl (by decide) rfl ?_
                  refine j_goto (tgt := 17) hx d_FlashLog_leftAtWorst_61 (by decide) ?_
                  refine J.lsub (ls' := [(0, .ref (G.1 68)), (1, .int m), (2, .int ((lwA σ m i j (lwW σ m i)).1)), (3, .int (((lwA σ m i j (lwW σ m i)).2) + 1)), (4, .int (nI (i + 1))), (5, .int ((nI j) + 1))]) [2, 3, 4, 1, 5, 0] rfl ?_
                  refine J.to ?_ ?_ (ih17 _ ?_ (j + 1) hlt17 rfl)
                  · first | (first | rfl | (simp [zc11, zc21, zc32, zc46]; done)) | fail
                  · first | (simp only [nI_s]; first | (rw [lwA_1 zc32]; done) | (rw [lwA_2 zc32 zc46]; done) | (rw [lwA_3 zc32 zc46]; done)) | fail
                  · first | (omega) | fail
                · skip
                  refine j_iinc hx [(2, .int (((lwA σ m i j (lwW σ m i)).1) + 1)), (0, .ref (G.1 68)), (1, .int m), (3, .int ((lwA σ m i j (lwW σ m i)).2)), (4, .int (nI (i + 1))), (5, .int (nI j))] d_FlashLog_leftAtWorst_49 2 rfl rfl (by decide) rfl ?_
                  refine j_goto (tgt := 58) hx d_FlashLog_leftAtWorst_52 (by decide) ?_
                  refine j_iinc hx [(5, .int ((nI j) + 1)), (2, .int (((lwA σ m i j (lwW σ m i)).1) + 1)), (0, .ref (G.1 68)), (1, .int m), (3, .int ((lwA σ m i j (lwW σ m i)).2)), (4, .int (nI (i + 1)))] d_FlashLog_leftAtWorst_58 5 rfl rfl (by decide) rfl ?_
                  refine j_goto (tgt := 17) hx d_FlashLog_leftAtWorst_61 (by decide) ?_
                  refine J.lsub (ls' := [(0, .ref (G.1 68)), (1, .int m), (2, .int (((lwA σ m i j (lwW σ m i)).1) + 1)), (3, .int ((lwA σ m i j (lwW σ m i)).2)), (4, .int (nI (i + 1))), (5, .int ((nI j) + 1))]) [2, 3, 1, 4, 5, 0] rfl ?_
                  refine J.to ?_ ?_ (ih17 _ ?_ (j + 1) hlt17 rfl)
                  · first | (first | rfl | (simp [zc11, zc21, zc32, zc46]; done)) | fail
                  · first | (simp only [nI_s]; first | (rw [lwA_1 zc32]; done) | (rw [lwA_2 zc32 zc46]; done) | (rw [lwA_3 zc32 zc46]; done)) | fail
                  · first | (omega) | fail
              · skip
                refine j_goto (tgt := 58) hx d_FlashLog_leftAtWorst_35 (by decide) ?_
                refine j_iinc hx [(5, .int ((nI j) + 1)), (0, .ref (G.1 68)), (1, .int m), (2, .int ((lwA σ m i j (lwW σ m i)).1)), (3, .int ((lwA σ m i j (lwW σ m i)).2)), (4, .int (nI (i + 1)))] d_FlashLog_leftAtWorst_58 5 rfl rfl (by decide) rfl ?_
                refine j_goto (tgt := 17) hx d_FlashLog_leftAtWorst_61 (by decide) ?_
                refine J.lsub (ls' := [(0, .ref (G.1 68)), (1, .int m), (2, .int ((lwA σ m i j (lwW σ m i)).1)), (3, .int ((lwA σ m i j (lwW σ m i)).2)), (4, .int (nI (i + 1))), (5, .int ((nI j) + 1))]) [1, 2, 3, 4, 5, 0] rfl ?_
                refine J.to ?_ ?_ (ih17 _ ?_ (j + 1) hlt17 rfl)
                · first | (first | rfl | (simp [zc11, zc21, zc32]; done)) | fail
                · first | (simp only [nI_s]; first | (rw [lwA_1 zc32]; done) | (rw [lwA_2 zc32 zc46]; done) | (rw [lwA_3 zc32 zc46]; done)) | fail
                · first | (omega) | fail
        refine J.lsub (ls' := [(0, .ref (G.1 68)), (1, .int m), (2, .int ((lwW σ m i).1)), (3, .int ((lwW σ m i).2)), (4, .int (nI (i + 1))), (5, .int 0)]) [1, 2, 3, 4, 5, 0] rfl ?_
        refine J.to ?_ ?_ (hl17 _ 0 (Nat.zero_le _) rfl)
        · first | (first | rfl | (simp [zc11]; done)) | fail
        · first | (rfl) | fail
  refine J.lsub (ls' := [(0, .ref (G.1 68)), (1, .int m), (2, .int 0), (3, .int 0), (4, .int 1)]) [3, 4, 2, 1, 0] rfl ?_
  refine J.to ?_ ?_ (hl7 _ 0 (Nat.zero_le _) rfl)
  · first | (first | rfl | (simp []; done)) | fail
  · first | (first | rfl | (simp only [nI_s]; done) | (simp only [nI_s, it_s]; done) | (simp [nI_s, it_s, ]; done)) | fail

set_option maxRecDepth 20000 in
set_option maxHeartbeats 4000000 in
theorem c_FlashLog_bestMinute {l : Launch} {G : Gz} (hG : zI G) (σ : St) : MI l G y_FlashLog_bestMinute prog_3_method_10_code 5 .int 4 [.ref (G.1 68)] σ ((bmF σ 60).1) σ := by
  refine MI.of hG (by decide) (Nat.le_of_ble_eq_true rfl) (fun X hx hq => ?_)
  show J l G X 5 σ 0 [(0, .ref (G.1 68))] []
  refine j_iconst (v := (-1)) hx d_FlashLog_bestMinute_0 (by decide) ?_
  refine j_istore_n hx [(1, .int ((-1))), (0, .ref (G.1 68))] d_FlashLog_bestMinute_1 rfl (by decide) rfl ?_
  refine j_iconst (v := 0) hx d_FlashLog_bestMinute_2 (by decide) ?_
  refine j_istore_n hx [(2, .int 0), (1, .int ((-1))), (0, .ref (G.1 68))] d_FlashLog_bestMinute_3 rfl (by decide) rfl ?_
  refine j_iconst (v := 0) hx d_FlashLog_bestMinute_4 (by decide) ?_
  refine j_istore_n hx [(3, .int 0), (2, .int 0), (1, .int ((-1))), (0, .ref (G.1 68))] d_FlashLog_bestMinute_5 rfl (by decide) rfl ?_
  have hl6 : ∀ (N9 : Nat) (i : Nat), (i ≤ 60) → 60 - i = N9 → J l G X 5 σ 6 [(0, .ref (G.1 68)), (1, .int ((bmF σ i).1)), (2, .int ((bmF σ i).2)), (3, .int (nI i))] [] := by
    intro N9
    induction N9 using Nat.strongRecOn with
    | _ N9 ih6 =>
      intro i hi_i hm6
      refine j_iload_n hx d_FlashLog_bestMinute_6 rfl 3 rfl ?_
      refine j_bipush (v := 60) hx d_FlashLog_bestMinute_7 (by decide) ?_
      refine j_icmp_ge (tgt := 55) hx d_FlashLog_bestMinute_9 (by decide) (fun zc9 => ?_) (fun zc9 => ?_)
      · skip
        obtain rfl := nt_end (n := 60) hi_i (by decide) zc9
        refine j_iload_n hx d_FlashLog_bestMinute_55 rfl 1 rfl ?_
        exact j_iret hx hq rfl d_FlashLog_bestMinute_56 (by first | (first | rfl | (simp only [zc9]; done) | (simp [zc9]; done)) | fail) (by first | (first | rfl | (simp only [zc9]; done) | (simp [zc9]; done)) | fail)
      · skip
        have hlt6 := nt_go (n := 60) hi_i (by decide) zc9
        refine j_aload_n hx d_FlashLog_bestMinute_12 rfl 0 rfl ?_
        refine j_get hx ck_FlashLog 0 (by decide) t_183 (by decide) (sh_68 _ _) rfl d_FlashLog_bestMinute_13 ?_
        refine j_iload_n hx d_FlashLog_bestMinute_16 rfl 3 rfl ?_
        refine j_callVi hx (c_Row_getA hG ir_69 70 rfl σ (nI i)) mo_Row_get mv_Row_get t_954 (by decide) rfl (by decide) (sh_69 _ _) rfl rfl (Nat.le_of_ble_eq_true rfl) d_FlashLog_bestMinute_17 ?_
        refine j_if_eq (tgt := 26) hx d_FlashLog_bestMinute_20 (by decide) (fun zc20 => ?_) (fun zc20 => ?_)
        · skip
          refine j_aload_n hx d_FlashLog_bestMinute_26 rfl 0 rfl ?_
          refine j_iload_n hx d_FlashLog_bestMinute_27 rfl 3 rfl ?_
          refine j_callVi hx (c_FlashLog_leftAtWorst hG σ (nI i)) mo_FlashLog_leftAtWorst mv_FlashLog_leftAtWorst t_1202 (by decide) rfl (by decide) (sh_68 _ _) rfl rfl (Nat.le_of_ble_eq_true rfl) d_FlashLog_bestMinute_28 ?_
          refine j_istore hx [(4, .int (lwV σ (nI i))), (0, .ref (G.1 68)), (1, .int ((bmF σ i).1)), (2, .int ((bmF σ i).2)), (3, .int (nI i))] d_FlashLog_bestMinute_31 (by decide) rfl ?_
          refine j_iload_n hx d_FlashLog_bestMinute_33 rfl 2 rfl ?_
          refine j_iconst (v := (-1)) hx d_FlashLog_bestMinute_34 (by decide) ?_
          refine j_icmp_eq (tgt := 44) hx d_FlashLog_bestMinute_35 (by decide) (fun zc35 => ?_) (fun zc35 => ?_)
          · skip
            refine j_iload_n hx d_FlashLog_bestMinute_44 rfl 4 rfl ?_
            refine j_istore_n hx [(1, .int (nI i)), (4, .int (lwV σ (nI i))), (0, .ref (G.1 68)), (2, .int ((bmF σ i).2)), (3, .int (nI i))] d_FlashLog_bestMinute_45 rfl (by decide) rfl ?_
            refine j_iload hx d_FlashLog_bestMinute_46 1 rfl ?_
            refine j_istore_n hx [(2, .int (lwV σ (nI i))), (1, .int (nI i)), (4, .int (lwV σ (nI i))), (0, .ref (G.1 68)), (3, .int (nI i))] d_FlashLog_bestMinute_48 rfl (by decide) rfl ?_
            refine j_iinc hx [(3, .int ((nI i) + 1)), (2, .int (lwV σ (nI i))), (1, .int (nI i)), (4, .int (lwV σ (nI i))), (0, .ref (G.1 68))] d_FlashLog_bestMinute_49 4 rfl rfl (by decide) rfl ?_
            refine j_goto (tgt := 6) hx d_FlashLog_bestMinute_52 (by decide) ?_
            refine J.lsub (ls' := [(0, .ref (G.1 68)), (1, .int (nI i)), (2, .int (lwV σ (nI i))), (3, .int ((nI i) + 1))]) [4, 2, 1, 0] rfl ?_
            refine J.to ?_ ?_ (ih6 _ ?_ (i + 1) hlt6 rfl)
            · first | (first | rfl | (simp [zc9, zc20, zc35]; done)) | fail
            · first | (simp only [nI_s]; first | (rw [bmF_1 zc20]; done) | (rw [bmF_2 zc20 (Or.inl zc35)]; done) | (rw [bmF_2 zc20 (Or.inr (i_nle zc41))]; done) | (rw [bmF_3 zc20 (fun z => z.elim zc35 (i_lelt zc41))]; done)) | fail
            · first | (omega) | fail
          · skip
            refine j_iload hx d_FlashLog_bestMinute_38 0 rfl ?_
            refine j_iload_n hx d_FlashLog_bestMinute_40 rfl 3 rfl ?_
            refine j_icmp_ge (tgt := 49) hx d_FlashLog_bestMinute_41 (by decide) (fun zc41 => ?_) (fun zc41 => ?_)
            · skip
              refine j_iinc hx [(3, .int ((nI i) + 1)), (4, .int (lwV σ (nI i))), (0, .ref (G.1 68)), (1, .int ((bmF σ i).1)), (2, .int ((bmF σ i).2))] d_FlashLog_bestMinute_49 4 rfl rfl (by decide) rfl ?_
              refine j_goto (tgt := 6) hx d_FlashLog_bestMinute_52 (by decide) ?_
              refine J.lsub (ls' := [(0, .ref (G.1 68)), (1, .int ((bmF σ i).1)), (2, .int ((bmF σ i).2)), (3, .int ((nI i) + 1))]) [2, 3, 4, 0] rfl ?_
              refine J.to ?_ ?_ (ih6 _ ?_ (i + 1) hlt6 rfl)
              · first | (first | rfl | (simp [zc9, zc20, zc35, zc41]; done)) | fail
              · first | (simp only [nI_s]; first | (rw [bmF_1 zc20]; done) | (rw [bmF_2 zc20 (Or.inl zc35)]; done) | (rw [bmF_2 zc20 (Or.inr (i_nle zc41))]; done) | (rw [bmF_3 zc20 (fun z => z.elim zc35 (i_lelt zc41))]; done)) | fail
              · first | (omega) | fail
            · skip
              refine j_iload_n hx d_FlashLog_bestMinute_44 rfl 4 rfl ?_
              refine j_istore_n hx [(1, .int (nI i)), (4, .int (lwV σ (nI i))), (0, .ref (G.1 68)), (2, .int ((bmF σ i).2)), (3, .int (nI i))] d_FlashLog_bestMinute_45 rfl (by decide) rfl ?_
              refine j_iload hx d_FlashLog_bestMinute_46 1 rfl ?_
              refine j_istore_n hx [(2, .int (lwV σ (nI i))), (1, .int (nI i)), (4, .int (lwV σ (nI i))), (0, .ref (G.1 68)), (3, .int (nI i))] d_FlashLog_bestMinute_48 rfl (by decide) rfl ?_
              refine j_iinc hx [(3, .int ((nI i) + 1)), (2, .int (lwV σ (nI i))), (1, .int (nI i)), (4, .int (lwV σ (nI i))), (0, .ref (G.1 68))] d_FlashLog_bestMinute_49 4 rfl rfl (by decide) rfl ?_
              refine j_goto (tgt := 6) hx d_FlashLog_bestMinute_52 (by decide) ?_
              refine J.lsub (ls' := [(0, .ref (G.1 68)), (1, .int (nI i)), (2, .int (lwV σ (nI i))), (3, .int ((nI i) + 1))]) [4, 2, 1, 0] rfl ?_
              refine J.to ?_ ?_ (ih6 _ ?_ (i + 1) hlt6 rfl)
              · first | (first | rfl | (simp [zc9, zc20, zc35, zc41]; done)) | fail
              · first | (simp only [nI_s]; first | (rw [bmF_1 zc20]; done) | (rw [bmF_2 zc20 (Or.inl zc35)]; done) | (rw [bmF_2 zc20 (Or.inr (i_nle zc41))]; done) | (rw [bmF_3 zc20 (fun z => z.elim zc35 (i_lelt zc41))]; done)) | fail
              · first | (omega) | fail
        · skip
          refine j_goto (tgt := 49) hx d_FlashLog_bestMinute_23 (by decide) ?_
          refine j_iinc hx [(3, .int ((nI i) + 1)), (0, .ref (G.1 68)), (1, .int ((bmF σ i).1)), (2, .int ((bmF σ i).2))] d_FlashLog_bestMinute_49 3 rfl rfl (by decide) rfl ?_
          refine j_goto (tgt := 6) hx d_FlashLog_bestMinute_52 (by decide) ?_
          refine J.lsub (ls' := [(0, .ref (G.1 68)), (1, .int ((bmF σ i).1)), (2, .int ((bmF σ i).2)), (3, .int ((nI i) + 1))]) [1, 2, 3, 0] rfl ?_
          refine J.to ?_ ?_ (ih6 _ ?_ (i + 1) hlt6 rfl)
          · first | (first | rfl | (simp [zc9, zc20]; done)) | fail
          · first | (simp only [nI_s]; first | (rw [bmF_1 zc20]; done) | (rw [bmF_2 zc20 (Or.inl zc35)]; done) | (rw [bmF_2 zc20 (Or.inr (i_nle zc41))]; done) | (rw [bmF_3 zc20 (fun z => z.elim zc35 (i_lelt zc41))]; done)) | fail
          · first | (omega) | fail
  refine J.lsub (ls' := [(0, .ref (G.1 68)), (1, .int ((-1))), (2, .int 0), (3, .int 0)]) [3, 2, 1, 0] rfl ?_
  refine J.to ?_ ?_ (hl6 _ 0 (Nat.zero_le _) rfl)
  · first | (first | rfl | (simp []; done)) | fail
  · first | (first | rfl | (simp only [nI_s]; done) | (simp only [nI_s, it_s]; done) | (simp [nI_s, it_s, ]; done)) | fail

