/-! ===== reading a coast (draft 27) and a log (draft 71) ===== -/
def rn1 (s : St) (row n : Nat) (idx lo hi : Int32) : St := rs (nuS s lo hi) row n idx (nuV (nu1 s))
def mof (k : Int32) : Int32 := if k = 0 then 12 else if k = 1 then 6 else if k = 2 then 3 else if k = 3 then 6 else if k = 4 then 6 else 60
def rl2 (s : St) (a b : Nat) (n : Nat) (idx : Int32) : St := rn1 (rn1 s a n idx 0 (rg (s 29) 6 0 - 1)) b n idx 1 9
def rs4 (s : St) (idx : Int32) : St := rn1 (rn1 (rn1 (rn1 s 40 6 idx 0 40) 42 6 idx 0 9) 44 6 idx 0 9) 46 6 idx 0 9
def rsi (s : St) : St := up (nuS s 0 5) 27 11 (nuV (nu1 s))
def rns (s : St) (k idx : Int32) : St := if k = 0 then rn1 s 30 12 idx 0 9 else if k = 1 then rl2 s 32 34 6 idx else if k = 2 then rl2 s 36 38 3 idx else if k = 3 then rs4 s idx else if k = 4 then rn1 s 48 6 idx 1 9 else rsi s
def rc1 (s : St) (a : Int32) : St := if 60 ≤ a ∨ mof (woI s 1) ≤ rg ((woS s 1) 29) 6 (woI s 1) then bl (woS s 1) 3 ((woS s 1) 1 4) else woS s 1
def tkR (s : St) (c : Int32) : St := rq (tkS s c) (b2 (tkP s c))
def rc2 (s : St) (k : Int32) : St := rns s k (rg (s 29) 6 k)
def rc3 (s : St) (k : Int32) : St := rs s 28 6 k (rg (s 29) 6 k + 1)
def rcS (s : St) (a : Int32) : St := if b2 ((rc1 s a) 1 5 = 0) = 0 then rc1 s a else rc3 (tkR (rc2 (rc1 s a) (woI s 1)) 59) (woI s 1)
def rfR : Nat → Nat → St → St
  | 0, _, s => s
  | n + 1, a, s => if b2 (s 1 5 = 0) = 0 ∨ ¬ b2 (s 1 2 ≤ s 1 3) = 0 then s else rfR n (a + 1) (rcS s (nI a))
theorem rfR_end {N : Nat} {s : St} : rfR (N - N) N s = s := by rw [Nat.sub_self, rfR]
theorem rfR_stop {N i : Nat} {s : St} (h : b2 (s 1 5 = 0) = 0 ∨ ¬ b2 (s 1 2 ≤ s 1 3) = 0) : rfR (N - i) i s = s := by
  cases hn : N - i with
  | zero => rfl
  | succ n => rw [rfR, if_pos h]
theorem rfR_go {N i : Nat} {s : St} (h : i < N) (h1 : ¬ b2 (s 1 5 = 0) = 0) (h2 : b2 (s 1 2 ≤ s 1 3) = 0) : rfR (N - i) i s = rfR (N - (i + 1)) (i + 1) (rcS s (nI i)) := by
  rw [show N - i = (N - (i + 1)) + 1 by omega, rfR, if_neg (fun z => z.elim h1 (fun q => q h2))]
def rf0 (s : St) : St := up (fl s 29 6 (fun _ => 0)) 27 11 2
def rfS (s : St) : St := rfR 61 0 (rf0 s)
theorem lt_61 {n i : Nat} (hn : n < 1000) (hi : i ≤ n + 1) (h : ¬ Int32.ofNat n < nI i) : i < n + 1 := Nat.lt_succ_of_le (nI_lts (by omega) (by omega) h)
theorem eq_61 {n i : Nat} (hn : n < 1000) (hi : i ≤ n + 1) (h : Int32.ofNat n < nI i) : n + 1 = i := by
  have := nI_gts (by omega) (by omega) h; omega
def cpr (s : St) (d q n : Nat) : St := cpy s d n q n 0 0 (Int32.ofNat n)
def bc1 (s : St) : St := cpr (cpr (cpr s 5 28 6) 7 30 12) 9 32 6
def bc2 (s : St) : St := cpr (cpr (cpr s 11 34 6) 13 36 3) 15 38 3
def bc3 (s : St) : St := cpr (cpr (cpr s 17 40 6) 19 42 6) 21 44 6
def bc4 (s : St) : St := cpr (cpr s 23 46 6) 25 48 6
def bcS (s : St) : St := up (bc4 (bc3 (bc2 (bc1 s)))) 4 11 ((bc4 (bc3 (bc2 (bc1 s)))) 27 11)
def mmI (s : St) (p n : Int32) (a : Nat) : St := it (fun a s => rs s 109 256 (rof (nI a) p n) 1) s a
def mmD (s : St) (n : Int32) (d : Nat) : St := it (fun d s => mmI s (dP s (nI d)) n (ct (dP s (nI d)))) s d
theorem mmI_o {s : St} {p n : Int32} {a o : Nat} (h : o ≠ 110) : mmI s p n a o = s o := by
  induction a with
  | zero => rfl
  | succ a ih => show rs (mmI s p n a) 109 256 _ _ o = _; rw [rs_o h, ih]
theorem mmD_o {s : St} {n : Int32} {d o : Nat} (h : o ≠ 110) : mmD s n d o = s o := by
  induction d with
  | zero => rfl
  | succ d ih => show mmI (mmD s n d) _ n _ o = _; rw [mmI_o h, ih]
theorem fl_o {s : St} {q n o : Nat} {f : Nat → Int32} (h : o ≠ q) : fl s q n f o = s o := by unfold fl; rw [if_neg h]
def mmS (s : St) (n : Int32) : St := mmD (fl s 110 256 (fun _ => 0)) n (ct (cM s 2))
/-! a line of a log -/
def ln1 (s : St) : St := if rg ((nuS s 0 59) 73) 60 (nuV (nu1 s)) = 0 then nuS s 0 59 else bl (nuS s 0 59) 2 ((nuS s 0 59) 1 4)
def ln2 (s : St) : St := if s 71 1 < 12 then s else bl s 3 (s 1 4)
def ln3 (s : St) (v : Int32) : St := rs (nuS s 0 1) 72 60 v (if nuV (nu1 s) = 0 then 1 else 2)
def ln4 (s : St) : St := up s 71 1 (s 71 1 + 1)
def lnS (s : St) : St := ln4 (tkR (ln3 (ln2 (ln1 s)) (nuV (nu1 s))) 59)
def lgR : Nat → St → St
  | 0, s => s
  | n + 1, s => if b2 (s 1 5 = 0) = 0 ∨ ¬ b2 (s 1 2 ≤ s 1 3) = 0 then s else lgR n (lnS s)
theorem lgR_end {N : Nat} {s : St} : lgR (N - N) s = s := by rw [Nat.sub_self, lgR]
theorem lgR_stop {n : Nat} {s : St} (h : b2 (s 1 5 = 0) = 0 ∨ ¬ b2 (s 1 2 ≤ s 1 3) = 0) : lgR n s = s := by
  cases n with
  | zero => rfl
  | succ n => rw [lgR, if_pos h]
theorem lgR_go {N i : Nat} {s : St} (h : i < N) (h1 : ¬ b2 (s 1 5 = 0) = 0) (h2 : b2 (s 1 2 ≤ s 1 3) = 0) : lgR (N - i) s = lgR (N - (i + 1)) (lnS s) := by
  rw [show N - i = (N - (i + 1)) + 1 by omega, lgR, if_neg (fun z => z.elim h1 (fun q => q h2))]
def lg0 (s : St) : St := up (fl s 73 60 (fun _ => 0)) 71 1 0
def lgS (s : St) : St := lgR 13 (lg0 s)
/-! some of the face -/
def fdS (s : St) (v : Int32) : St := tap (tap (tap (tap s v 24) v 16) v 8) v 0
def saB (k : Nat) (z : Int32 × St) : Int32 × St := (if (psk z.2 (nI k)).1 = -1 then z.1 ||| (1 <<< (nI k &&& 31)) else z.1, (psk z.2 (nI k)).2)
def saF (s : St) (n : Nat) : Int32 × St := it saB (0, s) n
theorem saF_o {s : St} {n o : Nat} (h1 : o ≠ 90) (h2 : o ≠ 92) (h3 : o ≠ 56) (h4 : o ≠ 58) : (saF s n).2 o = s o := by
  induction n with
  | zero => rfl
  | succ n ih => show (psk (saF s n).2 (nI n)).2 o = _; rw [psk_o h1 h2 h3 h4, ih]
theorem saF_1 {s : St} {i : Nat} (h : (psk (saF s i).2 (nI i)).1 = -1) : saF s (i + 1) = ((saF s i).1 ||| (1 <<< (nI i &&& 31)), (psk (saF s i).2 (nI i)).2) := by
  show saB i (saF s i) = _; unfold saB; rw [if_pos h]
theorem saF_2 {s : St} {i : Nat} (h : ¬ (psk (saF s i).2 (nI i)).1 = -1) : saF s (i + 1) = ((saF s i).1, (psk (saF s i).2 (nI i)).2) := by
  show saB i (saF s i) = _; unfold saB; rw [if_neg h]
def fuF (s : St) (n : Nat) : Int32 := (fnd (fun k => if rg (s 110) 256 (nI k) = 0 then some (nI k) else none) n).getD (-1)
def pwr (b : Int32) (n : Nat) : Int64 := it (fun _ a => a * b.toInt64) 1 n
def wkn (s : St) (ship w what : Int32) : Int32 := if what = 0 then 1 else if what = 1 then sC s ship else alv s ship w
def fsn (s : St) (c m : Int32) : Int32 := lfl s 81 c m (rch s 81) + dfl s 81 c m (rch s 81)

set_option maxRecDepth 20000 in
set_option maxHeartbeats 4000000 in
theorem c_Coast_mostOf {l : Launch} {G : Gz} (hG : zI G) (σ : St) (k9 : Int32) : MI l G y_Coast_mostOf prog_2_method_7_code 1 .int 1 [.int k9] σ (mof k9) σ := by
  refine MI.of hG (by decide) (Nat.le_of_ble_eq_true rfl) (fun X hx hq => ?_)
  show J l G X 1 σ 0 [(0, .int k9)] []
  refine j_iload_n hx d_Coast_mostOf_0 rfl 0 rfl ?_
  refine J.sw (x := k9) 0 (fun zc1_0 => ?_) (fun zc1_0 => ?_)
  · skip
    refine j_tableIn (x := k9) (tgt := 36) (off := 35) hx d_Coast_mostOf_1 (by rw [zc1_0]; decide) (by rw [zc1_0]; decide) (by rw [zc1_0]; decide) (by decide) ?_
    refine j_bipush (v := 12) hx d_Coast_mostOf_36 (by decide) ?_
    exact j_iret hx hq rfl d_Coast_mostOf_38 (by first | (unfold mof; simp [zc1_0]) | fail) (by first | (first | rfl | (simp only [zc1_0]; done) | (simp [zc1_0]; done)) | fail)
  refine J.sw (x := k9) 1 (fun zc1_1 => ?_) (fun zc1_1 => ?_)
  · skip
    refine j_tableIn (x := k9) (tgt := 39) (off := 38) hx d_Coast_mostOf_1 (by rw [zc1_1]; decide) (by rw [zc1_1]; decide) (by rw [zc1_1]; decide) (by decide) ?_
    refine j_bipush (v := 6) hx d_Coast_mostOf_39 (by decide) ?_
    exact j_iret hx hq rfl d_Coast_mostOf_41 (by first | (unfold mof; simp [zc1_0, zc1_1]) | fail) (by first | (first | rfl | (simp only [zc1_0, zc1_1]; done) | (simp [zc1_0, zc1_1]; done)) | fail)
  refine J.sw (x := k9) 2 (fun zc1_2 => ?_) (fun zc1_2 => ?_)
  · skip
    refine j_tableIn (x := k9) (tgt := 42) (off := 41) hx d_Coast_mostOf_1 (by rw [zc1_2]; decide) (by rw [zc1_2]; decide) (by rw [zc1_2]; decide) (by decide) ?_
    refine j_iconst (v := 3) hx d_Coast_mostOf_42 (by decide) ?_
    exact j_iret hx hq rfl d_Coast_mostOf_43 (by first | (unfold mof; simp [zc1_0, zc1_1, zc1_2]) | fail) (by first | (first | rfl | (simp only [zc1_0, zc1_1, zc1_2]; done) | (simp [zc1_0, zc1_1, zc1_2]; done)) | fail)
  refine J.sw (x := k9) 3 (fun zc1_3 => ?_) (fun zc1_3 => ?_)
  · skip
    refine j_tableIn (x := k9) (tgt := 44) (off := 43) hx d_Coast_mostOf_1 (by rw [zc1_3]; decide) (by rw [zc1_3]; decide) (by rw [zc1_3]; decide) (by decide) ?_
    refine j_bipush (v := 6) hx d_Coast_mostOf_44 (by decide) ?_
    exact j_iret hx hq rfl d_Coast_mostOf_46 (by first | (unfold mof; simp [zc1_0, zc1_1, zc1_2, zc1_3]) | fail) (by first | (first | rfl | (simp only [zc1_0, zc1_1, zc1_2, zc1_3]; done) | (simp [zc1_0, zc1_1, zc1_2, zc1_3]; done)) | fail)
  refine J.sw (x := k9) 4 (fun zc1_4 => ?_) (fun zc1_4 => ?_)
  · skip
    refine j_tableIn (x := k9) (tgt := 47) (off := 46) hx d_Coast_mostOf_1 (by rw [zc1_4]; decide) (by rw [zc1_4]; decide) (by rw [zc1_4]; decide) (by decide) ?_
    refine j_bipush (v := 6) hx d_Coast_mostOf_47 (by decide) ?_
    exact j_iret hx hq rfl d_Coast_mostOf_49 (by first | (unfold mof; simp [zc1_0, zc1_1, zc1_2, zc1_3, zc1_4]) | fail) (by first | (first | rfl | (simp only [zc1_0, zc1_1, zc1_2, zc1_3, zc1_4]; done) | (simp [zc1_0, zc1_1, zc1_2, zc1_3, zc1_4]; done)) | fail)
  refine j_tableOut (x := k9) (tgt := 50) hx d_Coast_mostOf_1 (by have h0 := sw_ne zc1_0; have h1 := sw_ne zc1_1; have h2 := sw_ne zc1_2; have h3 := sw_ne zc1_3; have h4 := sw_ne zc1_4; have q0 : Int32.toInt 0 = 0 := rfl; have q1 : Int32.toInt 1 = 1 := rfl; have q2 : Int32.toInt 2 = 2 := rfl; have q3 : Int32.toInt 3 = 3 := rfl; have q4 : Int32.toInt 4 = 4 := rfl; omega) (by decide) ?_
  refine j_bipush (v := 60) hx d_Coast_mostOf_50 (by decide) ?_
  exact j_iret hx hq rfl d_Coast_mostOf_52 (by first | (unfold mof; simp [zc1_0, zc1_1, zc1_2, zc1_3, zc1_4]) | fail) (by first | (first | rfl | (simp only [zc1_0, zc1_1, zc1_2, zc1_3, zc1_4]; done) | (simp [zc1_0, zc1_1, zc1_2, zc1_3, zc1_4]; done)) | fail)

set_option maxRecDepth 20000 in
set_option maxHeartbeats 4000000 in
theorem c_Coast_readNumbers {l : Launch} {G : Gz} (hG : zI G) (σ : St) (k9 : Int32) (idx : Int32) : MV l G y_Coast_readNumbers prog_2_method_8_code 4 5 [.ref (G.1 27), .ref (G.1 1), .int k9, .int idx] σ (rns σ k9 idx) := by
  refine MV.of hG (by decide) (Nat.le_of_ble_eq_true rfl) (fun X hx hq => ?_)
  show J l G X 4 σ 0 [(0, .ref (G.1 27)), (1, .ref (G.1 1)), (2, .int k9), (3, .int idx)] []
  refine j_iload_n hx d_Coast_readNumbers_0 rfl 2 rfl ?_
  refine J.sw (x := k9) 0 (fun zc1_0 => ?_) (fun zc1_0 => ?_)
  · skip
    refine j_tableIn (x := k9) (tgt := 36) (off := 35) hx d_Coast_readNumbers_1 (by rw [zc1_0]; decide) (by rw [zc1_0]; decide) (by rw [zc1_0]; decide) (by decide) ?_
    refine j_aload_n hx d_Coast_readNumbers_36 rfl 0 rfl ?_
    refine j_get hx ck_Coast 1 (by decide) t_89 (by decide) (sh_27 _ _) rfl d_Coast_readNumbers_37 ?_
    refine j_iload_n hx d_Coast_readNumbers_40 rfl 3 rfl ?_
    refine j_aload_n hx d_Coast_readNumbers_41 rfl 1 rfl ?_
    refine j_iconst (v := 0) hx d_Coast_readNumbers_42 (by decide) ?_
    refine j_bipush (v := 9) hx d_Coast_readNumbers_43 (by decide) ?_
    refine j_callVi hx (c_Tape_numberIn hG σ 0 9) mo_Tape_numberIn mv_Tape_numberIn t_731 (by decide) rfl (by decide) (sh_1 _ _) rfl rfl (Nat.le_of_ble_eq_true rfl) d_Coast_readNumbers_45 ?_
    refine j_callVv hx (c_Row_set hG ir_30 (nuS σ 0 9) idx (nuV (nu1 σ))) mo_Row_set mv_Row_set t_514 (by decide) rfl (by decide) (sh_30 _ _) rfl rfl (Nat.le_of_ble_eq_true rfl) d_Coast_readNumbers_48 ?_
    refine j_goto (tgt := 227) hx d_Coast_readNumbers_51 (by decide) ?_
    exact j_vret hx hq d_Coast_readNumbers_227 (by first | (first | (unfold rns; rw [if_pos zc1_0]; rfl) | (rw [eg_1]; unfold rns; rw [if_neg zc1_0, if_pos zc1_1]; rfl) | (rw [eg_1]; unfold rns; rw [if_neg zc1_0, if_neg zc1_1, if_pos zc1_2]; rfl) | (rw [eg_3, eg_2, eg_1]; unfold rns; rw [if_neg zc1_0, if_neg zc1_1, if_neg zc1_2, if_pos zc1_3]; rfl) | (unfold rns; rw [if_neg zc1_0, if_neg zc1_1, if_neg zc1_2, if_neg zc1_3, if_pos zc1_4]; rfl) | (unfold rns; rw [if_neg zc1_0, if_neg zc1_1, if_neg zc1_2, if_neg zc1_3, if_neg zc1_4]; rfl)) | fail)
  refine J.sw (x := k9) 1 (fun zc1_1 => ?_) (fun zc1_1 => ?_)
  · skip
    refine j_tableIn (x := k9) (tgt := 54) (off := 53) hx d_Coast_readNumbers_1 (by rw [zc1_1]; decide) (by rw [zc1_1]; decide) (by rw [zc1_1]; decide) (by decide) ?_
    refine j_aload_n hx d_Coast_readNumbers_54 rfl 0 rfl ?_
    refine j_get hx ck_Coast 2 (by decide) t_91 (by decide) (sh_27 _ _) rfl d_Coast_readNumbers_55 ?_
    refine j_iload_n hx d_Coast_readNumbers_58 rfl 3 rfl ?_
    refine j_aload_n hx d_Coast_readNumbers_59 rfl 1 rfl ?_
    refine j_iconst (v := 0) hx d_Coast_readNumbers_60 (by decide) ?_
    refine j_aload_n hx d_Coast_readNumbers_61 rfl 0 rfl ?_
    refine j_get hx ck_Coast 0 (by decide) t_82 (by decide) (sh_27 _ _) rfl d_Coast_readNumbers_62 ?_
    refine j_iconst (v := 0) hx d_Coast_readNumbers_65 (by decide) ?_
    refine j_callVi hx (c_Row_getA hG ir_28 29 rfl σ 0) mo_Row_get mv_Row_get t_484 (by decide) rfl (by decide) (sh_28 _ _) rfl rfl (Nat.le_of_ble_eq_true rfl) d_Coast_readNumbers_66 ?_
    refine j_iconst (v := 1) hx d_Coast_readNumbers_69 (by decide) ?_
    refine j_isub hx d_Coast_readNumbers_70 ?_
    refine j_callVi hx (c_Tape_numberIn hG σ 0 ((rg (σ (28 + 1)) 6 0) - 1)) mo_Tape_numberIn mv_Tape_numberIn t_731 (by decide) rfl (by decide) (sh_1 _ _) rfl rfl (Nat.le_of_ble_eq_true rfl) d_Coast_readNumbers_71 ?_
    refine j_callVv hx (c_Row_set hG ir_32 (nuS σ 0 ((rg (σ (28 + 1)) 6 0) - 1)) idx (nuV (nu1 σ))) mo_Row_set mv_Row_set t_514 (by decide) rfl (by decide) (sh_32 _ _) rfl rfl (Nat.le_of_ble_eq_true rfl) d_Coast_readNumbers_74 ?_
    obtain ⟨s9_1, eg_1⟩ : ∃ z : St, z = rn1 σ 32 6 idx 0 (rg (σ 29) 6 0 - 1) := ⟨_, rfl⟩
    refine J.to (σ' := s9_1) (by rw [eg_1]; first | done | rfl) rfl ?_
    refine j_aload_n hx d_Coast_readNumbers_77 rfl 0 rfl ?_
    refine j_get hx ck_Coast 3 (by decide) t_94 (by decide) (sh_27 _ _) rfl d_Coast_readNumbers_78 ?_
    refine j_iload_n hx d_Coast_readNumbers_81 rfl 3 rfl ?_
    refine j_aload_n hx d_Coast_readNumbers_82 rfl 1 rfl ?_
    refine j_iconst (v := 1) hx d_Coast_readNumbers_83 (by decide) ?_
    refine j_bipush (v := 9) hx d_Coast_readNumbers_84 (by decide) ?_
    refine j_callVi hx (c_Tape_numberIn hG s9_1 1 9) mo_Tape_numberIn mv_Tape_numberIn t_731 (by decide) rfl (by decide) (sh_1 _ _) rfl rfl (Nat.le_of_ble_eq_true rfl) d_Coast_readNumbers_86 ?_
    refine j_callVv hx (c_Row_set hG ir_34 (nuS s9_1 1 9) idx (nuV (nu1 s9_1))) mo_Row_set mv_Row_set t_514 (by decide) rfl (by decide) (sh_34 _ _) rfl rfl (Nat.le_of_ble_eq_true rfl) d_Coast_readNumbers_89 ?_
    refine j_goto (tgt := 227) hx d_Coast_readNumbers_92 (by decide) ?_
    exact j_vret hx hq d_Coast_readNumbers_227 (by first | (first | (unfold rns; rw [if_pos zc1_0]; rfl) | (rw [eg_1]; unfold rns; rw [if_neg zc1_0, if_pos zc1_1]; rfl) | (rw [eg_1]; unfold rns; rw [if_neg zc1_0, if_neg zc1_1, if_pos zc1_2]; rfl) | (rw [eg_3, eg_2, eg_1]; unfold rns; rw [if_neg zc1_0, if_neg zc1_1, if_neg zc1_2, if_pos zc1_3]; rfl) | (unfold rns; rw [if_neg zc1_0, if_neg zc1_1, if_neg zc1_2, if_neg zc1_3, if_pos zc1_4]; rfl) | (unfold rns; rw [if_neg zc1_0, if_neg zc1_1, if_neg zc1_2, if_neg zc1_3, if_neg zc1_4]; rfl)) | fail)
  refine J.sw (x := k9) 2 (fun zc1_2 => ?_) (fun zc1_2 => ?_)
  · skip
    refine j_tableIn (x := k9) (tgt := 95) (off := 94) hx d_Coast_readNumbers_1 (by rw [zc1_2]; decide) (by rw [zc1_2]; decide) (by rw [zc1_2]; decide) (by decide) ?_
    refine j_aload_n hx d_Coast_readNumbers_95 rfl 0 rfl ?_
    refine j_get hx ck_Coast 4 (by decide) t_97 (by decide) (sh_27 _ _) rfl d_Coast_readNumbers_96 ?_
    refine j_iload_n hx d_Coast_readNumbers_99 rfl 3 rfl ?_
    refine j_aload_n hx d_Coast_readNumbers_100 rfl 1 rfl ?_
    refine j_iconst (v := 0) hx d_Coast_readNumbers_101 (by decide) ?_
    refine j_aload_n hx d_Coast_readNumbers_102 rfl 0 rfl ?_
    refine j_get hx ck_Coast 0 (by decide) t_82 (by decide) (sh_27 _ _) rfl d_Coast_readNumbers_103 ?_
    refine j_iconst (v := 0) hx d_Coast_readNumbers_106 (by decide) ?_
    refine j_callVi hx (c_Row_getA hG ir_28 29 rfl σ 0) mo_Row_get mv_Row_get t_484 (by decide) rfl (by decide) (sh_28 _ _) rfl rfl (Nat.le_of_ble_eq_true rfl) d_Coast_readNumbers_107 ?_
    refine j_iconst (v := 1) hx d_Coast_readNumbers_110 (by decide) ?_
    refine j_isub hx d_Coast_readNumbers_111 ?_
    refine j_callVi hx (c_Tape_numberIn hG σ 0 ((rg (σ (28 + 1)) 6 0) - 1)) mo_Tape_numberIn mv_Tape_numberIn t_731 (by decide) rfl (by decide) (sh_1 _ _) rfl rfl (Nat.le_of_ble_eq_true rfl) d_Coast_readNumbers_112 ?_
    refine j_callVv hx (c_Row_set hG ir_36 (nuS σ 0 ((rg (σ (28 + 1)) 6 0) - 1)) idx (nuV (nu1 σ))) mo_Row_set mv_Row_set t_514 (by decide) rfl (by decide) (sh_36 _ _) rfl rfl (Nat.le_of_ble_eq_true rfl) d_Coast_readNumbers_115 ?_
    obtain ⟨s9_1, eg_1⟩ : ∃ z : St, z = rn1 σ 36 3 idx 0 (rg (σ 29) 6 0 - 1) := ⟨_, rfl⟩
    refine J.to (σ' := s9_1) (by rw [eg_1]; first | done | rfl) rfl ?_
    refine j_aload_n hx d_Coast_readNumbers_118 rfl 0 rfl ?_
    refine j_get hx ck_Coast 5 (by decide) t_99 (by decide) (sh_27 _ _) rfl d_Coast_readNumbers_119 ?_
    refine j_iload_n hx d_Coast_readNumbers_122 rfl 3 rfl ?_
    refine j_aload_n hx d_Coast_readNumbers_123 rfl 1 rfl ?_
    refine j_iconst (v := 1) hx d_Coast_readNumbers_124 (by decide) ?_
    refine j_bipush (v := 9) hx d_Coast_readNumbers_125 (by decide) ?_
    refine j_callVi hx (c_Tape_numberIn hG s9_1 1 9) mo_Tape_numberIn mv_Tape_numberIn t_731 (by decide) rfl (by decide) (sh_1 _ _) rfl rfl (Nat.le_of_ble_eq_true rfl) d_Coast_readNumbers_127 ?_
    refine j_callVv hx (c_Row_set hG ir_38 (nuS s9_1 1 9) idx (nuV (nu1 s9_1))) mo_Row_set mv_Row_set t_514 (by decide) rfl (by decide) (sh_38 _ _) rfl rfl (Nat.le_of_ble_eq_true rfl) d_Coast_readNumbers_130 ?_
    refine j_goto (tgt := 227) hx d_Coast_readNumbers_133 (by decide) ?_
    exact j_vret hx hq d_Coast_readNumbers_227 (by first | (first | (unfold rns; rw [if_pos zc1_0]; rfl) | (rw [eg_1]; unfold rns; rw [if_neg zc1_0, if_pos zc1_1]; rfl) | (rw [eg_1]; unfold rns; rw [if_neg zc1_0, if_neg zc1_1, if_pos zc1_2]; rfl) | (rw [eg_3, eg_2, eg_1]; unfold rns; rw [if_neg zc1_0, if_neg zc1_1, if_neg zc1_2, if_pos zc1_3]; rfl) | (unfold rns; rw [if_neg zc1_0, if_neg zc1_1, if_neg zc1_2, if_neg zc1_3, if_pos zc1_4]; rfl) | (unfold rns; rw [if_neg zc1_0, if_neg zc1_1, if_neg zc1_2, if_neg zc1_3, if_neg zc1_4]; rfl)) | fail)
  refine J.sw (x := k9) 3 (fun zc1_3 => ?_) (fun zc1_3 => ?_)
  · skip
    refine j_tableIn (x := k9) (tgt := 136) (off := 135) hx d_Coast_readNumbers_1 (by rw [zc1_3]; decide) (by rw [zc1_3]; decide) (by rw [zc1_3]; decide) (by decide) ?_
    refine j_aload_n hx d_Coast_readNumbers_136 rfl 0 rfl ?_
    refine j_get hx ck_Coast 6 (by decide) t_103 (by decide) (sh_27 _ _) rfl d_Coast_readNumbers_137 ?_
    refine j_iload_n hx d_Coast_readNumbers_140 rfl 3 rfl ?_
    refine j_aload_n hx d_Coast_readNumbers_141 rfl 1 rfl ?_
    refine j_iconst (v := 0) hx d_Coast_readNumbers_142 (by decide) ?_
    refine j_bipush (v := 40) hx d_Coast_readNumbers_143 (by decide) ?_
    refine j_callVi hx (c_Tape_numberIn hG σ 0 40) mo_Tape_numberIn mv_Tape_numberIn t_731 (by decide) rfl (by decide) (sh_1 _ _) rfl rfl (Nat.le_of_ble_eq_true rfl) d_Coast_readNumbers_145 ?_
    refine j_callVv hx (c_Row_set hG ir_40 (nuS σ 0 40) idx (nuV (nu1 σ))) mo_Row_set mv_Row_set t_514 (by decide) rfl (by decide) (sh_40 _ _) rfl rfl (Nat.le_of_ble_eq_true rfl) d_Coast_readNumbers_148 ?_
    obtain ⟨s9_1, eg_1⟩ : ∃ z : St, z = rn1 σ 40 6 idx 0 40 := ⟨_, rfl⟩
    refine J.to (σ' := s9_1) (by rw [eg_1]; first | done | rfl) rfl ?_
    refine j_aload_n hx d_Coast_readNumbers_151 rfl 0 rfl ?_
    refine j_get hx ck_Coast 7 (by decide) t_106 (by decide) (sh_27 _ _) rfl d_Coast_readNumbers_152 ?_
    refine j_iload_n hx d_Coast_readNumbers_155 rfl 3 rfl ?_
    refine j_aload_n hx d_Coast_readNumbers_156 rfl 1 rfl ?_
    refine j_iconst (v := 0) hx d_Coast_readNumbers_157 (by decide) ?_
    refine j_bipush (v := 9) hx d_Coast_readNumbers_158 (by decide) ?_
    refine j_callVi hx (c_Tape_numberIn hG s9_1 0 9) mo_Tape_numberIn mv_Tape_numberIn t_731 (by decide) rfl (by decide) (sh_1 _ _) rfl rfl (Nat.le_of_ble_eq_true rfl) d_Coast_readNumbers_160 ?_
    refine j_callVv hx (c_Row_set hG ir_42 (nuS s9_1 0 9) idx (nuV (nu1 s9_1))) mo_Row_set mv_Row_set t_514 (by decide) rfl (by decide) (sh_42 _ _) rfl rfl (Nat.le_of_ble_eq_true rfl) d_Coast_readNumbers_163 ?_
    obtain ⟨s9_2, eg_2⟩ : ∃ z : St, z = rn1 s9_1 42 6 idx 0 9 := ⟨_, rfl⟩
    refine J.to (σ' := s9_2) (by rw [eg_2]; first | done | rfl) rfl ?_
    refine j_aload_n hx d_Coast_readNumbers_166 rfl 0 rfl ?_
    refine j_get hx ck_Coast 8 (by decide) t_108 (by decide) (sh_27 _ _) rfl d_Coast_readNumbers_167 ?_
    refine j_iload_n hx d_Coast_readNumbers_170 rfl 3 rfl ?_
    refine j_aload_n hx d_Coast_readNumbers_171 rfl 1 rfl ?_
    refine j_iconst (v := 0) hx d_Coast_readNumbers_172 (by decide) ?_
    refine j_bipush (v := 9) hx d_Coast_readNumbers_173 (by decide) ?_
    refine j_callVi hx (c_Tape_numberIn hG s9_2 0 9) mo_Tape_numberIn mv_Tape_numberIn t_731 (by decide) rfl (by decide) (sh_1 _ _) rfl rfl (Nat.le_of_ble_eq_true rfl) d_Coast_readNumbers_175 ?_
    refine j_callVv hx (c_Row_set hG ir_44 (nuS s9_2 0 9) idx (nuV (nu1 s9_2))) mo_Row_set mv_Row_set t_514 (by decide) rfl (by decide) (sh_44 _ _) rfl rfl (Nat.le_of_ble_eq_true rfl) d_Coast_readNumbers_178 ?_
    obtain ⟨s9_3, eg_3⟩ : ∃ z : St, z = rn1 s9_2 44 6 idx 0 9 := ⟨_, rfl⟩
    refine J.to (σ' := s9_3) (by rw [eg_3]; first | done | rfl) rfl ?_
    refine j_aload_n hx d_Coast_readNumbers_181 rfl 0 rfl ?_
    refine j_get hx ck_Coast 9 (by decide) t_110 (by decide) (sh_27 _ _) rfl d_Coast_readNumbers_182 ?_
    refine j_iload_n hx d_Coast_readNumbers_185 rfl 3 rfl ?_
    refine j_aload_n hx d_Coast_readNumbers_186 rfl 1 rfl ?_
    refine j_iconst (v := 0) hx d_Coast_readNumbers_187 (by decide) ?_
    refine j_bipush (v := 9) hx d_Coast_readNumbers_188 (by decide) ?_
    refine j_callVi hx (c_Tape_numberIn hG s9_3 0 9) mo_Tape_numberIn mv_Tape_numberIn t_731 (by decide) rfl (by decide) (sh_1 _ _) rfl rfl (Nat.le_of_ble_eq_true rfl) d_Coast_readNumbers_190 ?_
    refine j_callVv hx (c_Row_set hG ir_46 (nuS s9_3 0 9) idx (nuV (nu1 s9_3))) mo_Row_set mv_Row_set t_514 (by decide) rfl (by decide) (sh_46 _ _) rfl rfl (Nat.le_of_ble_eq_true rfl) d_Coast_readNumbers_193 ?_
    refine j_goto (tgt := 227) hx d_Coast_readNumbers_196 (by decide) ?_
    exact j_vret hx hq d_Coast_readNumbers_227 (by first | (first | (unfold rns; rw [if_pos zc1_0]; rfl) | (rw [eg_1]; unfold rns; rw [if_neg zc1_0, if_pos zc1_1]; rfl) | (rw [eg_1]; unfold rns; rw [if_neg zc1_0, if_neg zc1_1, if_pos zc1_2]; rfl) | (rw [eg_3, eg_2, eg_1]; unfold rns; rw [if_neg zc1_0, if_neg zc1_1, if_neg zc1_2, if_pos zc1_3]; rfl) | (unfold rns; rw [if_neg zc1_0, if_neg zc1_1, if_neg zc1_2, if_neg zc1_3, if_pos zc1_4]; rfl) | (unfold rns; rw [if_neg zc1_0, if_neg zc1_1, if_neg zc1_2, if_neg zc1_3, if_neg zc1_4]; rfl)) | fail)
  refine J.sw (x := k9) 4 (fun zc1_4 => ?_) (fun zc1_4 => ?_)
  · skip
    refine j_tableIn (x := k9) (tgt := 199) (off := 198) hx d_Coast_readNumbers_1 (by rw [zc1_4]; decide) (by rw [zc1_4]; decide) (by rw [zc1_4]; decide) (by decide) ?_
    refine j_aload_n hx d_Coast_readNumbers_199 rfl 0 rfl ?_
    refine j_get hx ck_Coast 10 (by decide) t_112 (by decide) (sh_27 _ _) rfl d_Coast_readNumbers_200 ?_
    refine j_iload_n hx d_Coast_readNumbers_203 rfl 3 rfl ?_
    refine j_aload_n hx d_Coast_readNumbers_204 rfl 1 rfl ?_
    refine j_iconst (v := 1) hx d_Coast_readNumbers_205 (by decide) ?_
    refine j_bipush (v := 9) hx d_Coast_readNumbers_206 (by decide) ?_
    refine j_callVi hx (c_Tape_numberIn hG σ 1 9) mo_Tape_numberIn mv_Tape_numberIn t_731 (by decide) rfl (by decide) (sh_1 _ _) rfl rfl (Nat.le_of_ble_eq_true rfl) d_Coast_readNumbers_208 ?_
    refine j_callVv hx (c_Row_set hG ir_48 (nuS σ 1 9) idx (nuV (nu1 σ))) mo_Row_set mv_Row_set t_514 (by decide) rfl (by decide) (sh_48 _ _) rfl rfl (Nat.le_of_ble_eq_true rfl) d_Coast_readNumbers_211 ?_
    refine j_goto (tgt := 227) hx d_Coast_readNumbers_214 (by decide) ?_
    exact j_vret hx hq d_Coast_readNumbers_227 (by first | (first | (unfold rns; rw [if_pos zc1_0]; rfl) | (rw [eg_1]; unfold rns; rw [if_neg zc1_0, if_pos zc1_1]; rfl) | (rw [eg_1]; unfold rns; rw [if_neg zc1_0, if_neg zc1_1, if_pos zc1_2]; rfl) | (rw [eg_3, eg_2, eg_1]; unfold rns; rw [if_neg zc1_0, if_neg zc1_1, if_neg zc1_2, if_pos zc1_3]; rfl) | (unfold rns; rw [if_neg zc1_0, if_neg zc1_1, if_neg zc1_2, if_neg zc1_3, if_pos zc1_4]; rfl) | (unfold rns; rw [if_neg zc1_0, if_neg zc1_1, if_neg zc1_2, if_neg zc1_3, if_neg zc1_4]; rfl)) | fail)
  refine j_tableOut (x := k9) (tgt := 217) hx d_Coast_readNumbers_1 (by have h0 := sw_ne zc1_0; have h1 := sw_ne zc1_1; have h2 := sw_ne zc1_2; have h3 := sw_ne zc1_3; have h4 := sw_ne zc1_4; have q0 : Int32.toInt 0 = 0 := rfl; have q1 : Int32.toInt 1 = 1 := rfl; have q2 : Int32.toInt 2 = 2 := rfl; have q3 : Int32.toInt 3 = 3 := rfl; have q4 : Int32.toInt 4 = 4 := rfl; omega) (by decide) ?_
  refine j_aload_n hx d_Coast_readNumbers_217 rfl 0 rfl ?_
  refine j_aload_n hx d_Coast_readNumbers_218 rfl 1 rfl ?_
  refine j_iconst (v := 0) hx d_Coast_readNumbers_219 (by decide) ?_
  refine j_iconst (v := 5) hx d_Coast_readNumbers_220 (by decide) ?_
  refine j_callVi hx (c_Tape_numberIn hG σ 0 5) mo_Tape_numberIn mv_Tape_numberIn t_731 (by decide) rfl (by decide) (sh_1 _ _) rfl rfl (Nat.le_of_ble_eq_true rfl) d_Coast_readNumbers_221 ?_
  refine j_put hx ck_Coast 11 (by decide) t_113 (by decide) (sh_27 _ _) rfl (Nat.le_of_ble_eq_true rfl) (sh_27 _ _) d_Coast_readNumbers_224 ?_
  exact j_vret hx hq d_Coast_readNumbers_227 (by first | (first | (unfold rns; rw [if_pos zc1_0]; rfl) | (rw [eg_1]; unfold rns; rw [if_neg zc1_0, if_pos zc1_1]; rfl) | (rw [eg_1]; unfold rns; rw [if_neg zc1_0, if_neg zc1_1, if_pos zc1_2]; rfl) | (rw [eg_3, eg_2, eg_1]; unfold rns; rw [if_neg zc1_0, if_neg zc1_1, if_neg zc1_2, if_pos zc1_3]; rfl) | (unfold rns; rw [if_neg zc1_0, if_neg zc1_1, if_neg zc1_2, if_neg zc1_3, if_pos zc1_4]; rfl) | (unfold rns; rw [if_neg zc1_0, if_neg zc1_1, if_neg zc1_2, if_neg zc1_3, if_neg zc1_4]; rfl)) | fail)

set_option maxRecDepth 20000 in
set_option maxHeartbeats 4000000 in
theorem c_Coast_readClause {l : Launch} {G : Gz} (hG : zI G) (σ : St) (a9 : Int32) : MV l G y_Coast_readClause prog_2_method_6_code 4 7 [.ref (G.1 27), .ref (G.1 1), .int a9] σ (rcS σ a9) := by
  refine MV.of hG (by decide) (Nat.le_of_ble_eq_true rfl) (fun X hx hq => ?_)
  show J l G X 4 σ 0 [(0, .ref (G.1 27)), (1, .ref (G.1 1)), (2, .int a9)] []
  refine j_aload_n hx d_Coast_readClause_0 rfl 1 rfl ?_
  refine j_ldcs1 hx d_Coast_readClause_1 ?_
  refine j_callVi hx (c_Tape_wordOf hG σ 1 (by decide)) mo_Tape_wordOf mv_Tape_wordOf t_659 (by decide) rfl (by decide) (sh_1 _ _) rfl rfl (Nat.le_of_ble_eq_true rfl) d_Coast_readClause_3 ?_
  refine j_istore_n hx [(3, .int (woI σ 1)), (0, .ref (G.1 27)), (1, .ref (G.1 1)), (2, .int a9)] d_Coast_readClause_6 rfl (by decide) rfl ?_
  refine j_iload_n hx d_Coast_readClause_7 rfl 3 rfl ?_
  refine j_bipush (v := 60) hx d_Coast_readClause_8 (by decide) ?_
  refine j_icmp_ge (tgt := 28) hx d_Coast_readClause_10 (by decide) (fun zc10 => ?_) (fun zc10 => ?_)
  · skip
    refine j_aload_n hx d_Coast_readClause_28 rfl 2 rfl ?_
    refine j_iconst (v := 3) hx d_Coast_readClause_29 (by decide) ?_
    refine j_callVv hx (c_Tape_blameItem hG (woS σ 1) 3) mo_Tape_blameItem mv_Tape_blameItem t_726 (by decide) rfl (by decide) (sh_1 _ _) rfl rfl (Nat.le_of_ble_eq_true rfl) d_Coast_readClause_30 ?_
    obtain ⟨s9_1, eg_1⟩ : ∃ z : St, z = rc1 σ a9 := ⟨_, rfl⟩
    refine J.to (σ' := s9_1) (by rw [eg_1]; first | exact (if_pos (Or.inl zc10)).symm | exact (if_pos (Or.inr (i_nlt zc25))).symm | exact (if_neg (fun z => z.elim zc10 (i_lle zc25))).symm) rfl ?_
    refine j_aload_n hx d_Coast_readClause_33 rfl 2 rfl ?_
    refine j_callVi hx (c_Tape_fine hG s9_1) mo_Tape_fine mv_Tape_fine t_646 (by decide) rfl (by decide) (sh_1 _ _) rfl rfl (Nat.le_of_ble_eq_true rfl) d_Coast_readClause_34 ?_
    refine j_if_ne (tgt := 41) hx d_Coast_readClause_37 (by decide) (fun zc37 => ?_) (fun zc37 => ?_)
    · skip
      refine j_aload_n hx d_Coast_readClause_41 rfl 1 rfl ?_
      refine j_aload_n hx d_Coast_readClause_42 rfl 2 rfl ?_
      refine j_iload_n hx d_Coast_readClause_43 rfl 0 rfl ?_
      refine j_aload_n hx d_Coast_readClause_44 rfl 1 rfl ?_
      refine j_get hx ck_Coast 0 (by decide) t_82 (by decide) (sh_27 _ _) rfl d_Coast_readClause_45 ?_
      refine j_iload_n hx d_Coast_readClause_48 rfl 0 rfl ?_
      refine j_callVi hx (c_Row_getA hG ir_28 29 rfl s9_1 (woI σ 1)) mo_Row_get mv_Row_get t_484 (by decide) rfl (by decide) (sh_28 _ _) rfl rfl (Nat.le_of_ble_eq_true rfl) d_Coast_readClause_49 ?_
      refine j_callVv hx (c_Coast_readNumbers hG s9_1 (woI σ 1) (rg (s9_1 (28 + 1)) 6 (woI σ 1))) mo_Coast_readNumbers mv_Coast_readNumbers t_727 (by decide) rfl (by decide) (sh_27 _ _) rfl rfl (Nat.le_of_ble_eq_true rfl) d_Coast_readClause_52 ?_
      obtain ⟨s9_2, eg_2⟩ : ∃ z : St, z = rc2 s9_1 (woI σ 1) := ⟨_, rfl⟩
      refine J.to (σ' := s9_2) (by rw [eg_2]; first | done | rfl) rfl ?_
      refine j_aload_n hx d_Coast_readClause_55 rfl 2 rfl ?_
      refine j_aload_n hx d_Coast_readClause_56 rfl 2 rfl ?_
      refine j_bipush (v := 59) hx d_Coast_readClause_57 (by decide) ?_
      refine j_callVi hx (c_Tape_take hG s9_2 59) mo_Tape_take mv_Tape_take t_745 (by decide) rfl (by decide) (sh_1 _ _) rfl rfl (Nat.le_of_ble_eq_true rfl) d_Coast_readClause_59 ?_
      refine j_callVv hx (c_Tape_require hG (tkS s9_2 59) (b2 (tkP s9_2 59))) mo_Tape_require mv_Tape_require t_749 (by decide) rfl (by decide) (sh_1 _ _) rfl rfl (Nat.le_of_ble_eq_true rfl) d_Coast_readClause_62 ?_
      obtain ⟨s9_3, eg_3⟩ : ∃ z : St, z = tkR s9_2 59 := ⟨_, rfl⟩
      refine J.to (σ' := s9_3) (by rw [eg_3]; first | done | rfl) rfl ?_
      refine j_aload_n hx d_Coast_readClause_65 rfl 1 rfl ?_
      refine j_get hx ck_Coast 0 (by decide) t_82 (by decide) (sh_27 _ _) rfl d_Coast_readClause_66 ?_
      refine j_iload_n hx d_Coast_readClause_69 rfl 0 rfl ?_
      refine j_iconst (v := 1) hx d_Coast_readClause_70 (by decide) ?_
      refine j_callVv hx (c_Row_addA hG ir_28 29 rfl s9_3 (woI σ 1) 1) mo_Row_add mv_Row_add t_750 (by decide) rfl (by decide) (sh_28 _ _) rfl rfl (Nat.le_of_ble_eq_true rfl) d_Coast_readClause_71 ?_
      exact j_vret hx hq d_Coast_readClause_74 (by first | (first | (rw [eg_3, eg_2, eg_1]; rw [eg_1] at zc37; exact (if_neg zc37).symm) | (rw [eg_1]; rw [eg_1] at zc37; exact (if_pos zc37).symm)) | fail)
    · skip
      exact j_vret hx hq d_Coast_readClause_40 (by first | (first | (rw [eg_3, eg_2, eg_1]; rw [eg_1] at zc37; exact (if_neg zc37).symm) | (rw [eg_1]; rw [eg_1] at zc37; exact (if_pos zc37).symm)) | fail)
  · skip
    refine j_aload_n hx d_Coast_readClause_13 rfl 1 rfl ?_
    refine j_get hx ck_Coast 0 (by decide) t_82 (by decide) (sh_27 _ _) rfl d_Coast_readClause_14 ?_
    refine j_iload_n hx d_Coast_readClause_17 rfl 0 rfl ?_
    refine j_callVi hx (c_Row_getA hG ir_28 29 rfl (woS σ 1) (woI σ 1)) mo_Row_get mv_Row_get t_484 (by decide) rfl (by decide) (sh_28 _ _) rfl rfl (Nat.le_of_ble_eq_true rfl) d_Coast_readClause_18 ?_
    refine j_iload_n hx d_Coast_readClause_21 rfl 0 rfl ?_
    refine j_callSi hx (c_Coast_mostOf hG (woS σ 1) (woI σ 1)) mo_Coast_mostOf t_724 t_723 (by decide) rfl rfl (Nat.le_of_ble_eq_true rfl) d_Coast_readClause_22 ?_
    refine j_icmp_lt (tgt := 33) hx d_Coast_readClause_25 (by decide) (fun zc25 => ?_) (fun zc25 => ?_)
    · skip
      obtain ⟨s9_1, eg_1⟩ : ∃ z : St, z = rc1 σ a9 := ⟨_, rfl⟩
      refine J.to (σ' := s9_1) (by rw [eg_1]; first | exact (if_pos (Or.inl zc10)).symm | exact (if_pos (Or.inr (i_nlt zc25))).symm | exact (if_neg (fun z => z.elim zc10 (i_lle zc25))).symm) rfl ?_
      refine j_aload_n hx d_Coast_readClause_33 rfl 2 rfl ?_
      refine j_callVi hx (c_Tape_fine hG s9_1) mo_Tape_fine mv_Tape_fine t_646 (by decide) rfl (by decide) (sh_1 _ _) rfl rfl (Nat.le_of_ble_eq_true rfl) d_Coast_readClause_34 ?_
      refine j_if_ne (tgt := 41) hx d_Coast_readClause_37 (by decide) (fun zc37 => ?_) (fun zc37 => ?_)
      · skip
        refine j_aload_n hx d_Coast_readClause_41 rfl 1 rfl ?_
        refine j_aload_n hx d_Coast_readClause_42 rfl 2 rfl ?_
        refine j_iload_n hx d_Coast_readClause_43 rfl 0 rfl ?_
        refine j_aload_n hx d_Coast_readClause_44 rfl 1 rfl ?_
        refine j_get hx ck_Coast 0 (by decide) t_82 (by decide) (sh_27 _ _) rfl d_Coast_readClause_45 ?_
        refine j_iload_n hx d_Coast_readClause_48 rfl 0 rfl ?_
        refine j_callVi hx (c_Row_getA hG ir_28 29 rfl s9_1 (woI σ 1)) mo_Row_get mv_Row_get t_484 (by decide) rfl (by decide) (sh_28 _ _) rfl rfl (Nat.le_of_ble_eq_true rfl) d_Coast_readClause_49 ?_
        refine j_callVv hx (c_Coast_readNumbers hG s9_1 (woI σ 1) (rg (s9_1 (28 + 1)) 6 (woI σ 1))) mo_Coast_readNumbers mv_Coast_readNumbers t_727 (by decide) rfl (by decide) (sh_27 _ _) rfl rfl (Nat.le_of_ble_eq_true rfl) d_Coast_readClause_52 ?_
        obtain ⟨s9_2, eg_2⟩ : ∃ z : St, z = rc2 s9_1 (woI σ 1) := ⟨_, rfl⟩
        refine J.to (σ' := s9_2) (by rw [eg_2]; first | done | rfl) rfl ?_
        refine j_aload_n hx d_Coast_readClause_55 rfl 2 rfl ?_
        refine j_aload_n hx d_Coast_readClause_56 rfl 2 rfl ?_
        refine j_bipush (v := 59) hx d_Coast_readClause_57 (by decide) ?_
        refine j_callVi hx (c_Tape_take hG s9_2 59) mo_Tape_take mv_Tape_take t_745 (by decide) rfl (by decide) (sh_1 _ _) rfl rfl (Nat.le_of_ble_eq_true rfl) d_Coast_readClause_59 ?_
        refine j_callVv hx (c_Tape_require hG (tkS s9_2 59) (b2 (tkP s9_2 59))) mo_Tape_require mv_Tape_require t_749 (by decide) rfl (by decide) (sh_1 _ _) rfl rfl (Nat.le_of_ble_eq_true rfl) d_Coast_readClause_62 ?_
        obtain ⟨s9_3, eg_3⟩ : ∃ z : St, z = tkR s9_2 59 := ⟨_, rfl⟩
        refine J.to (σ' := s9_3) (by rw [eg_3]; first | done | rfl) rfl ?_
        refine j_aload_n hx d_Coast_readClause_65 rfl 1 rfl ?_
        refine j_get hx ck_Coast 0 (by decide) t_82 (by decide) (sh_27 _ _) rfl d_Coast_readClause_66 ?_
        refine j_iload_n hx d_Coast_readClause_69 rfl 0 rfl ?_
        refine j_iconst (v := 1) hx d_Coast_readClause_70 (by decide) ?_
        refine j_callVv hx (c_Row_addA hG ir_28 29 rfl s9_3 (woI σ 1) 1) mo_Row_add mv_Row_add t_750 (by decide) rfl (by decide) (sh_28 _ _) rfl rfl (Nat.le_of_ble_eq_true rfl) d_Coast_readClause_71 ?_
        exact j_vret hx hq d_Coast_readClause_74 (by first | (first | (rw [eg_3, eg_2, eg_1]; rw [eg_1] at zc37; exact (if_neg zc37).symm) | (rw [eg_1]; rw [eg_1] at zc37; exact (if_pos zc37).symm)) | fail)
      · skip
        exact j_vret hx hq d_Coast_readClause_40 (by first | (first | (rw [eg_3, eg_2, eg_1]; rw [eg_1] at zc37; exact (if_neg zc37).symm) | (rw [eg_1]; rw [eg_1] at zc37; exact (if_pos zc37).symm)) | fail)
    · skip
      refine j_aload_n hx d_Coast_readClause_28 rfl 2 rfl ?_
      refine j_iconst (v := 3) hx d_Coast_readClause_29 (by decide) ?_
      refine j_callVv hx (c_Tape_blameItem hG (woS σ 1) 3) mo_Tape_blameItem mv_Tape_blameItem t_726 (by decide) rfl (by decide) (sh_1 _ _) rfl rfl (Nat.le_of_ble_eq_true rfl) d_Coast_readClause_30 ?_
      obtain ⟨s9_1, eg_1⟩ : ∃ z : St, z = rc1 σ a9 := ⟨_, rfl⟩
      refine J.to (σ' := s9_1) (by rw [eg_1]; first | exact (if_pos (Or.inl zc10)).symm | exact (if_pos (Or.inr (i_nlt zc25))).symm | exact (if_neg (fun z => z.elim zc10 (i_lle zc25))).symm) rfl ?_
      refine j_aload_n hx d_Coast_readClause_33 rfl 2 rfl ?_
      refine j_callVi hx (c_Tape_fine hG s9_1) mo_Tape_fine mv_Tape_fine t_646 (by decide) rfl (by decide) (sh_1 _ _) rfl rfl (Nat.le_of_ble_eq_true rfl) d_Coast_readClause_34 ?_
      refine j_if_ne (tgt := 41) hx d_Coast_readClause_37 (by decide) (fun zc37 => ?_) (fun zc37 => ?_)
      · skip
        refine j_aload_n hx d_Coast_readClause_41 rfl 1 rfl ?_
        refine j_aload_n hx d_Coast_readClause_42 rfl 2 rfl ?_
        refine j_iload_n hx d_Coast_readClause_43 rfl 0 rfl ?_
        refine j_aload_n hx d_Coast_readClause_44 rfl 1 rfl ?_
        refine j_get hx ck_Coast 0 (by decide) t_82 (by decide) (sh_27 _ _) rfl d_Coast_readClause_45 ?_
        refine j_iload_n hx d_Coast_readClause_48 rfl 0 rfl ?_
        refine j_callVi hx (c_Row_getA hG ir_28 29 rfl s9_1 (woI σ 1)) mo_Row_get mv_Row_get t_484 (by decide) rfl (by decide) (sh_28 _ _) rfl rfl (Nat.le_of_ble_eq_true rfl) d_Coast_readClause_49 ?_
        refine j_callVv hx (c_Coast_readNumbers hG s9_1 (woI σ 1) (rg (s9_1 (28 + 1)) 6 (woI σ 1))) mo_Coast_readNumbers mv_Coast_readNumbers t_727 (by decide) rfl (by decide) (sh_27 _ _) rfl rfl (Nat.le_of_ble_eq_true rfl) d_Coast_readClause_52 ?_
        obtain ⟨s9_2, eg_2⟩ : ∃ z : St, z = rc2 s9_1 (woI σ 1) := ⟨_, rfl⟩
        refine J.to (σ' := s9_2) (by rw [eg_2]; first | done | rfl) rfl ?_
        refine j_aload_n hx d_Coast_readClause_55 rfl 2 rfl ?_
        refine j_aload_n hx d_Coast_readClause_56 rfl 2 rfl ?_
        refine j_bipush (v := 59) hx d_Coast_readClause_57 (by decide) ?_
        refine j_callVi hx (c_Tape_take hG s9_2 59) mo_Tape_take mv_Tape_take t_745 (by decide) rfl (by decide) (sh_1 _ _) rfl rfl (Nat.le_of_ble_eq_true rfl) d_Coast_readClause_59 ?_
        refine j_callVv hx (c_Tape_require hG (tkS s9_2 59) (b2 (tkP s9_2 59))) mo_Tape_require mv_Tape_require t_749 (by decide) rfl (by decide) (sh_1 _ _) rfl rfl (Nat.le_of_ble_eq_true rfl) d_Coast_readClause_62 ?_
        obtain ⟨s9_3, eg_3⟩ : ∃ z : St, z = tkR s9_2 59 := ⟨_, rfl⟩
        refine J.to (σ' := s9_3) (by rw [eg_3]; first | done | rfl) rfl ?_
        refine j_aload_n hx d_Coast_readClause_65 rfl 1 rfl ?_
        refine j_get hx ck_Coast 0 (by decide) t_82 (by decide) (sh_27 _ _) rfl d_Coast_readClause_66 ?_
        refine j_iload_n hx d_Coast_readClause_69 rfl 0 rfl ?_
        refine j_iconst (v := 1) hx d_Coast_readClause_70 (by decide) ?_
        refine j_callVv hx (c_Row_addA hG ir_28 29 rfl s9_3 (woI σ 1) 1) mo_Row_add mv_Row_add t_750 (by decide) rfl (by decide) (sh_28 _ _) rfl rfl (Nat.le_of_ble_eq_true rfl) d_Coast_readClause_71 ?_
        exact j_vret hx hq d_Coast_readClause_74 (by first | (first | (rw [eg_3, eg_2, eg_1]; rw [eg_1] at zc37; exact (if_neg zc37).symm) | (rw [eg_1]; rw [eg_1] at zc37; exact (if_pos zc37).symm)) | fail)
      · skip
        exact j_vret hx hq d_Coast_readClause_40 (by first | (first | (rw [eg_3, eg_2, eg_1]; rw [eg_1] at zc37; exact (if_neg zc37).symm) | (rw [eg_1]; rw [eg_1] at zc37; exact (if_pos zc37).symm)) | fail)

set_option maxRecDepth 20000 in
set_option maxHeartbeats 4000000 in
theorem c_Coast_readFrom {l : Launch} {G : Gz} (hG : zI G) (σ : St) : MV l G y_Coast_readFrom prog_2_method_5_code 3 8 [.ref (G.1 27), .ref (G.1 1)] σ (rfS σ) := by
  refine MV.of hG (by decide) (Nat.le_of_ble_eq_true rfl) (fun X hx hq => ?_)
  show J l G X 3 σ 0 [(0, .ref (G.1 27)), (1, .ref (G.1 1))] []
  refine j_aload_n hx d_Coast_readFrom_0 rfl 0 rfl ?_
  refine j_get hx ck_Coast 0 (by decide) t_82 (by decide) (sh_27 _ _) rfl d_Coast_readFrom_1 ?_
  refine j_callVv hx (c_Row_clear hG ir_28 σ) mo_Row_clear mv_Row_clear t_507 (by decide) rfl (by decide) (sh_28 _ _) rfl rfl (Nat.le_of_ble_eq_true rfl) d_Coast_readFrom_4 ?_
  refine j_aload_n hx d_Coast_readFrom_7 rfl 0 rfl ?_
  refine j_iconst (v := 2) hx d_Coast_readFrom_8 (by decide) ?_
  refine j_put hx ck_Coast 11 (by decide) t_113 (by decide) (sh_27 _ _) rfl (Nat.le_of_ble_eq_true rfl) (sh_27 _ _) d_Coast_readFrom_9 ?_
  obtain ⟨s9_1, eg_1⟩ : ∃ z : St, z = rf0 σ := ⟨_, rfl⟩
  refine J.to (σ' := s9_1) (by rw [eg_1]; first | done | rfl) rfl ?_
  refine j_iconst (v := 0) hx d_Coast_readFrom_12 (by decide) ?_
  refine j_istore_n hx [(2, .int 0), (0, .ref (G.1 27)), (1, .ref (G.1 1))] d_Coast_readFrom_13 rfl (by decide) rfl ?_
  have hl14 : ∀ (N9 : Nat) (i : Nat) (s : St), (i ≤ 61) → (rfR (61 - i) i s = rfR 61 0 s9_1) → 61 - i = N9 → J l G X 3 s 14 [(0, .ref (G.1 27)), (1, .ref (G.1 1)), (2, .int (nI i))] [] := by
    intro N9
    induction N9 using Nat.strongRecOn with
    | _ N9 ih14 =>
      intro i s hi_i hr hm14
      refine j_iload_n hx d_Coast_readFrom_14 rfl 2 rfl ?_
      refine j_bipush (v := 60) hx d_Coast_readFrom_15 (by decide) ?_
      refine j_icmp_gt (tgt := 46) hx d_Coast_readFrom_17 (by decide) (fun zc17 => ?_) (fun zc17 => ?_)
      · skip
        obtain rfl := eq_61 (n := 60) (by decide) hi_i zc17
        exact j_vret hx hq d_Coast_readFrom_46 (by first | (rw [eg_1] at hr; first | exact (rfR_end (N := 61)).symm.trans hr | exact (rfR_stop (Or.inl zc24)).symm.trans hr | exact (rfR_stop (Or.inr zc31)).symm.trans hr) | fail)
      · skip
        have hlt14 := lt_61 (n := 60) (by decide) hi_i zc17
        refine j_aload_n hx d_Coast_readFrom_20 rfl 1 rfl ?_
        refine j_callVi hx (c_Tape_fine hG s) mo_Tape_fine mv_Tape_fine t_646 (by decide) rfl (by decide) (sh_1 _ _) rfl rfl (Nat.le_of_ble_eq_true rfl) d_Coast_readFrom_21 ?_
        refine j_if_eq (tgt := 46) hx d_Coast_readFrom_24 (by decide) (fun zc24 => ?_) (fun zc24 => ?_)
        · skip
          exact j_vret hx hq d_Coast_readFrom_46 (by first | (rw [eg_1] at hr; first | exact (rfR_end (N := 61)).symm.trans hr | exact (rfR_stop (Or.inl zc24)).symm.trans hr | exact (rfR_stop (Or.inr zc31)).symm.trans hr) | fail)
        · skip
          refine j_aload_n hx d_Coast_readFrom_27 rfl 1 rfl ?_
          refine j_callVi hx (c_Tape_ended hG s) mo_Tape_ended mv_Tape_ended t_650 (by decide) rfl (by decide) (sh_1 _ _) rfl rfl (Nat.le_of_ble_eq_true rfl) d_Coast_readFrom_28 ?_
          refine j_if_ne (tgt := 46) hx d_Coast_readFrom_31 (by decide) (fun zc31 => ?_) (fun zc31 => ?_)
          · skip
            exact j_vret hx hq d_Coast_readFrom_46 (by first | (rw [eg_1] at hr; first | exact (rfR_end (N := 61)).symm.trans hr | exact (rfR_stop (Or.inl zc24)).symm.trans hr | exact (rfR_stop (Or.inr zc31)).symm.trans hr) | fail)
          · skip
            refine j_aload_n hx d_Coast_readFrom_34 rfl 0 rfl ?_
            refine j_aload_n hx d_Coast_readFrom_35 rfl 1 rfl ?_
            refine j_iload_n hx d_Coast_readFrom_36 rfl 2 rfl ?_
            refine j_callVv hx (c_Coast_readClause hG s (nI i)) mo_Coast_readClause mv_Coast_readClause t_654 (by decide) rfl (by decide) (sh_27 _ _) rfl rfl (Nat.le_of_ble_eq_true rfl) d_Coast_readFrom_37 ?_
            refine j_iinc hx [(2, .int ((nI i) + 1)), (0, .ref (G.1 27)), (1, .ref (G.1 1))] d_Coast_readFrom_40 2 rfl rfl (by decide) rfl ?_
            refine j_goto (tgt := 14) hx d_Coast_readFrom_43 (by decide) ?_
            refine J.lsub (ls' := [(0, .ref (G.1 27)), (1, .ref (G.1 1)), (2, .int ((nI i) + 1))]) [1, 2, 0] rfl ?_
            refine J.to ?_ ?_ (ih14 _ ?_ (i + 1) (rcS s (nI i)) hlt14 ((rfR_go hlt14 zc24 zc31).symm.trans hr) rfl)
            · first | (rfl) | fail
            · first | (simp only [nI_s]) | fail
            · first | (omega) | fail
  refine J.lsub (ls' := [(0, .ref (G.1 27)), (1, .ref (G.1 1)), (2, .int 0)]) [1, 2, 0] rfl ?_
  refine J.to ?_ ?_ (hl14 _ 0 s9_1 (Nat.zero_le _) rfl rfl)
  · first | (rfl) | fail
  · first | (rfl) | fail

set_option maxRecDepth 20000 in
set_option maxHeartbeats 4000000 in
theorem c_Coast_become {l : Launch} {G : Gz} (hG : zI G) (σ : St) : MV l G y_Coast_become prog_2_method_2_code 2 4 [.ref (G.1 4), .ref (G.1 27)] σ (bcS σ) := by
  refine MV.of hG (by decide) (Nat.le_of_ble_eq_true rfl) (fun X hx hq => ?_)
  show J l G X 2 σ 0 [(0, .ref (G.1 4)), (1, .ref (G.1 27))] []
  refine j_aload_n hx d_Coast_become_0 rfl 0 rfl ?_
  refine j_get hx ck_Coast 0 (by decide) t_82 (by decide) (sh_4 _ _) rfl d_Coast_become_1 ?_
  refine j_aload_n hx d_Coast_become_4 rfl 1 rfl ?_
  refine j_get hx ck_Coast 0 (by decide) t_82 (by decide) (sh_27 _ _) rfl d_Coast_become_5 ?_
  refine j_callVv hx (c_Row_become hG ir_5 ir_28 σ) mo_Row_become mv_Row_become t_763 (by decide) rfl (by decide) (sh_5 _ _) rfl rfl (Nat.le_of_ble_eq_true rfl) d_Coast_become_8 ?_
  refine j_aload_n hx d_Coast_become_11 rfl 0 rfl ?_
  refine j_get hx ck_Coast 1 (by decide) t_89 (by decide) (sh_4 _ _) rfl d_Coast_become_12 ?_
  refine j_aload_n hx d_Coast_become_15 rfl 1 rfl ?_
  refine j_get hx ck_Coast 1 (by decide) t_89 (by decide) (sh_27 _ _) rfl d_Coast_become_16 ?_
  refine j_callVv hx (c_Row_become hG ir_7 ir_30 (cpy σ 5 6 28 6 0 0 (Int32.ofNat 6))) mo_Row_become mv_Row_become t_763 (by decide) rfl (by decide) (sh_7 _ _) rfl rfl (Nat.le_of_ble_eq_true rfl) d_Coast_become_19 ?_
  refine j_aload_n hx d_Coast_become_22 rfl 0 rfl ?_
  refine j_get hx ck_Coast 2 (by decide) t_91 (by decide) (sh_4 _ _) rfl d_Coast_become_23 ?_
  refine j_aload_n hx d_Coast_become_26 rfl 1 rfl ?_
  refine j_get hx ck_Coast 2 (by decide) t_91 (by decide) (sh_27 _ _) rfl d_Coast_become_27 ?_
  refine j_callVv hx (c_Row_become hG ir_9 ir_32 (cpy (cpy σ 5 6 28 6 0 0 (Int32.ofNat 6)) 7 12 30 12 0 0 (Int32.ofNat 12))) mo_Row_become mv_Row_become t_763 (by decide) rfl (by decide) (sh_9 _ _) rfl rfl (Nat.le_of_ble_eq_true rfl) d_Coast_become_30 ?_
  obtain ⟨s9_1, eg_1⟩ : ∃ z : St, z = bc1 σ := ⟨_, rfl⟩
  refine J.to (σ' := s9_1) (by rw [eg_1]; first | done | rfl) rfl ?_
  refine j_aload_n hx d_Coast_become_33 rfl 0 rfl ?_
  refine j_get hx ck_Coast 3 (by decide) t_94 (by decide) (sh_4 _ _) rfl d_Coast_become_34 ?_
  refine j_aload_n hx d_Coast_become_37 rfl 1 rfl ?_
  refine j_get hx ck_Coast 3 (by decide) t_94 (by decide) (sh_27 _ _) rfl d_Coast_become_38 ?_
  refine j_callVv hx (c_Row_become hG ir_11 ir_34 s9_1) mo_Row_become mv_Row_become t_763 (by decide) rfl (by decide) (sh_11 _ _) rfl rfl (Nat.le_of_ble_eq_true rfl) d_Coast_become_41 ?_
  refine j_aload_n hx d_Coast_become_44 rfl 0 rfl ?_
  refine j_get hx ck_Coast 4 (by decide) t_97 (by decide) (sh_4 _ _) rfl d_Coast_become_45 ?_
  refine j_aload_n hx d_Coast_become_48 rfl 1 rfl ?_
  refine j_get hx ck_Coast 4 (by decide) t_97 (by decide) (sh_27 _ _) rfl d_Coast_become_49 ?_
  refine j_callVv hx (c_Row_become hG ir_13 ir_36 (cpy s9_1 11 6 34 6 0 0 (Int32.ofNat 6))) mo_Row_become mv_Row_become t_763 (by decide) rfl (by decide) (sh_13 _ _) rfl rfl (Nat.le_of_ble_eq_true rfl) d_Coast_become_52 ?_
  refine j_aload_n hx d_Coast_become_55 rfl 0 rfl ?_
  refine j_get hx ck_Coast 5 (by decide) t_99 (by decide) (sh_4 _ _) rfl d_Coast_become_56 ?_
  refine j_aload_n hx d_Coast_become_59 rfl 1 rfl ?_
  refine j_get hx ck_Coast 5 (by decide) t_99 (by decide) (sh_27 _ _) rfl d_Coast_become_60 ?_
  refine j_callVv hx (c_Row_become hG ir_15 ir_38 (cpy (cpy s9_1 11 6 34 6 0 0 (Int32.ofNat 6)) 13 3 36 3 0 0 (Int32.ofNat 3))) mo_Row_become mv_Row_become t_763 (by decide) rfl (by decide) (sh_15 _ _) rfl rfl (Nat.le_of_ble_eq_true rfl) d_Coast_become_63 ?_
  obtain ⟨s9_2, eg_2⟩ : ∃ z : St, z = bc2 s9_1 := ⟨_, rfl⟩
  refine J.to (σ' := s9_2) (by rw [eg_2]; first | done | rfl) rfl ?_
  refine j_aload_n hx d_Coast_become_66 rfl 0 rfl ?_
  refine j_get hx ck_Coast 6 (by decide) t_103 (by decide) (sh_4 _ _) rfl d_Coast_become_67 ?_
  refine j_aload_n hx d_Coast_become_70 rfl 1 rfl ?_
  refine j_get hx ck_Coast 6 (by decide) t_103 (by decide) (sh_27 _ _) rfl d_Coast_become_71 ?_
  refine j_callVv hx (c_Row_become hG ir_17 ir_40 s9_2) mo_Row_become mv_Row_become t_763 (by decide) rfl (by decide) (sh_17 _ _) rfl rfl (Nat.le_of_ble_eq_true rfl) d_Coast_become_74 ?_
  refine j_aload_n hx d_Coast_become_77 rfl 0 rfl ?_
  refine j_get hx ck_Coast 7 (by decide) t_106 (by decide) (sh_4 _ _) rfl d_Coast_become_78 ?_
  refine j_aload_n hx d_Coast_become_81 rfl 1 rfl ?_
  refine j_get hx ck_Coast 7 (by decide) t_106 (by decide) (sh_27 _ _) rfl d_Coast_become_82 ?_
  refine j_callVv hx (c_Row_become hG ir_19 ir_42 (cpy s9_2 17 6 40 6 0 0 (Int32.ofNat 6))) mo_Row_become mv_Row_become t_763 (by decide) rfl (by decide) (sh_19 _ _) rfl rfl (Nat.le_of_ble_eq_true rfl) d_Coast_become_85 ?_
  refine j_aload_n hx d_Coast_become_88 rfl 0 rfl ?_
  refine j_get hx ck_Coast 8 (by decide) t_108 (by decide) (sh_4 _ _) rfl d_Coast_become_89 ?_
  refine j_aload_n hx d_Coast_become_92 rfl 1 rfl ?_
  refine j_get hx ck_Coast 8 (by decide) t_108 (by decide) (sh_27 _ _) rfl d_Coast_become_93 ?_
  refine j_callVv hx (c_Row_become hG ir_21 ir_44 (cpy (cpy s9_2 17 6 40 6 0 0 (Int32.ofNat 6)) 19 6 42 6 0 0 (Int32.ofNat 6))) mo_Row_become mv_Row_become t_763 (by decide) rfl (by decide) (sh_21 _ _) rfl rfl (Nat.le_of_ble_eq_true rfl) d_Coast_become_96 ?_
  obtain ⟨s9_3, eg_3⟩ : ∃ z : St, z = bc3 s9_2 := ⟨_, rfl⟩
  refine J.to (σ' := s9_3) (by rw [eg_3]; first | done | rfl) rfl ?_
  refine j_aload_n hx d_Coast_become_99 rfl 0 rfl ?_
  refine j_get hx ck_Coast 9 (by decide) t_110 (by decide) (sh_4 _ _) rfl d_Coast_become_100 ?_
  refine j_aload_n hx d_Coast_become_103 rfl 1 rfl ?_
  refine j_get hx ck_Coast 9 (by decide) t_110 (by decide) (sh_27 _ _) rfl d_Coast_become_104 ?_
  refine j_callVv hx (c_Row_become hG ir_23 ir_46 s9_3) mo_Row_become mv_Row_become t_763 (by decide) rfl (by decide) (sh_23 _ _) rfl rfl (Nat.le_of_ble_eq_true rfl) d_Coast_become_107 ?_
  refine j_aload_n hx d_Coast_become_110 rfl 0 rfl ?_
  refine j_get hx ck_Coast 10 (by decide) t_112 (by decide) (sh_4 _ _) rfl d_Coast_become_111 ?_
  refine j_aload_n hx d_Coast_become_114 rfl 1 rfl ?_
  refine j_get hx ck_Coast 10 (by decide) t_112 (by decide) (sh_27 _ _) rfl d_Coast_become_115 ?_
  refine j_callVv hx (c_Row_become hG ir_25 ir_48 (cpy s9_3 23 6 46 6 0 0 (Int32.ofNat 6))) mo_Row_become mv_Row_become t_763 (by decide) rfl (by decide) (sh_25 _ _) rfl rfl (Nat.le_of_ble_eq_true rfl) d_Coast_become_118 ?_
  obtain ⟨s9_4, eg_4⟩ : ∃ z : St, z = bc4 s9_3 := ⟨_, rfl⟩
  refine J.to (σ' := s9_4) (by rw [eg_4]; first | done | rfl) rfl ?_
  refine j_aload_n hx d_Coast_become_121 rfl 0 rfl ?_
  refine j_aload_n hx d_Coast_become_122 rfl 1 rfl ?_
  refine j_get hx ck_Coast 11 (by decide) t_113 (by decide) (sh_27 _ _) rfl d_Coast_become_123 ?_
  refine j_put hx ck_Coast 11 (by decide) t_113 (by decide) (sh_4 _ _) rfl (Nat.le_of_ble_eq_true rfl) (sh_4 _ _) d_Coast_become_126 ?_
  exact j_vret hx hq d_Coast_become_129 (by first | (rw [eg_4, eg_3, eg_2, eg_1]; rfl) | fail)

set_option maxRecDepth 20000 in
set_option maxHeartbeats 4000000 in
theorem c_Coast_markMadeRows {l : Launch} {G : Gz} (hG : zI G) (σ : St) (n : Int32) : MV l G y_Coast_markMadeRows prog_2_method_20_code 6 3 [.ref (G.1 4), .int n, .ref (G.1 109)] σ (mmS σ n) := by
  refine MV.of hG (by decide) (Nat.le_of_ble_eq_true rfl) (fun X hx hq => ?_)
  show J l G X 6 σ 0 [(0, .ref (G.1 4)), (1, .int n), (2, .ref (G.1 109))] []
  refine j_aload_n hx d_Coast_markMadeRows_0 rfl 2 rfl ?_
  refine j_callVv hx (c_Row_clear hG ir_109 σ) mo_Row_clear mv_Row_clear t_507 (by decide) rfl (by decide) (sh_109 _ _) rfl rfl (Nat.le_of_ble_eq_true rfl) d_Coast_markMadeRows_1 ?_
  refine j_iconst (v := 0) hx d_Coast_markMadeRows_4 (by decide) ?_
  refine j_istore_n hx [(3, .int 0), (0, .ref (G.1 4)), (1, .int n), (2, .ref (G.1 109))] d_Coast_markMadeRows_5 rfl (by decide) rfl ?_
  have hl6 : ∀ (N9 : Nat) (i : Nat), (i ≤ (ct (cM σ 2))) → (ct (cM σ 2)) - i = N9 → J l G X 6 (mmD (fl σ 110 256 (fun _ => 0)) n i) 6 [(0, .ref (G.1 4)), (1, .int n), (2, .ref (G.1 109)), (3, .int (nI i))] [] := by
    intro N9
    induction N9 using Nat.strongRecOn with
    | _ N9 ih6 =>
      intro i hi_i hm6
      refine j_iload_n hx d_Coast_markMadeRows_6 rfl 3 rfl ?_
      refine j_aload_n hx d_Coast_markMadeRows_7 rfl 0 rfl ?_
      refine j_get hx ck_Coast 0 (by decide) t_82 (by decide) (sh_4 _ _) rfl d_Coast_markMadeRows_8 ?_
      refine j_iconst (v := 2) hx d_Coast_markMadeRows_11 (by decide) ?_
      refine j_callVi hx (c_Row_getA hG ir_5 6 rfl (mmD (fl σ 110 256 (fun _ => 0)) n i) 2) mo_Row_get mv_Row_get t_484 (by decide) rfl (by decide) (sh_5 _ _) rfl rfl (Nat.le_of_ble_eq_true rfl) d_Coast_markMadeRows_12 ?_
      refine j_icmp_ge (tgt := 63) hx d_Coast_markMadeRows_15 (by decide) (fun zc15 => ?_) (fun zc15 => ?_)
      · skip
        obtain rfl := ct_end' hi_i (by have q9 := zc15; rw [mmD_o (by decide), fl_o (by decide)] at q9; exact q9)
        exact j_vret hx hq d_Coast_markMadeRows_63 (by first | (first | rfl | (simp only [zc15]; done) | (simp [zc15]; done)) | fail)
      · skip
        have hlt6 := ct_go hi_i (by have q9 := zc15; rw [mmD_o (by decide), fl_o (by decide)] at q9; exact q9)
        refine j_aload_n hx d_Coast_markMadeRows_18 rfl 0 rfl ?_
        refine j_get hx ck_Coast 5 (by decide) t_99 (by decide) (sh_4 _ _) rfl d_Coast_markMadeRows_19 ?_
        refine j_iload_n hx d_Coast_markMadeRows_22 rfl 3 rfl ?_
        refine j_callVi hx (c_Row_getA hG ir_15 16 rfl (mmD (fl σ 110 256 (fun _ => 0)) n i) (nI i)) mo_Row_get mv_Row_get t_484 (by decide) rfl (by decide) (sh_15 _ _) rfl rfl (Nat.le_of_ble_eq_true rfl) d_Coast_markMadeRows_23 ?_
        refine j_istore hx [(4, .int (rg ((mmD (fl σ 110 256 (fun _ => 0)) n i) (15 + 1)) 3 (nI i))), (0, .ref (G.1 4)), (1, .int n), (2, .ref (G.1 109)), (3, .int (nI i))] d_Coast_markMadeRows_26 (by decide) rfl ?_
        refine j_iconst (v := 0) hx d_Coast_markMadeRows_28 (by decide) ?_
        refine j_istore hx [(5, .int 0), (4, .int (rg ((mmD (fl σ 110 256 (fun _ => 0)) n i) (15 + 1)) 3 (nI i))), (0, .ref (G.1 4)), (1, .int n), (2, .ref (G.1 109)), (3, .int (nI i))] d_Coast_markMadeRows_29 (by decide) rfl ?_
        have hl31 : ∀ (N9 : Nat) (j : Nat), (j ≤ (ct (dP (mmD (fl σ 110 256 (fun _ => 0)) n i) (nI i)))) → (ct (dP (mmD (fl σ 110 256 (fun _ => 0)) n i) (nI i))) - j = N9 → J l G X 6 (mmI (mmD (fl σ 110 256 (fun _ => 0)) n i) (dP (mmD (fl σ 110 256 (fun _ => 0)) n i) (nI i)) n j) 31 [(0, .ref (G.1 4)), (1, .int n), (2, .ref (G.1 109)), (3, .int (nI i)), (4, .int (rg ((mmD (fl σ 110 256 (fun _ => 0)) n i) (15 + 1)) 3 (nI i))), (5, .int (nI j))] [] := by
          intro N9
          induction N9 using Nat.strongRecOn with
          | _ N9 ih31 =>
            intro j hi_j hm31
            refine j_iload hx d_Coast_markMadeRows_31 5 rfl ?_
            refine j_iload hx d_Coast_markMadeRows_33 4 rfl ?_
            refine j_icmp_ge (tgt := 57) hx d_Coast_markMadeRows_35 (by decide) (fun zc35 => ?_) (fun zc35 => ?_)
            · skip
              obtain rfl := ct_end' hi_j zc35
              refine j_iinc hx [(3, .int ((nI i) + 1)), (0, .ref (G.1 4)), (1, .int n), (2, .ref (G.1 109)), (4, .int (rg ((mmD (fl σ 110 256 (fun _ => 0)) n i) (15 + 1)) 3 (nI i))), (5, .int (nI (ct (dP (mmD (fl σ 110 256 (fun _ => 0)) n i) (nI i)))))] d_Coast_markMadeRows_57 3 rfl rfl (by decide) rfl ?_
              refine j_goto (tgt := 6) hx d_Coast_markMadeRows_60 (by decide) ?_
              refine J.lsub (ls' := [(0, .ref (G.1 4)), (1, .int n), (2, .ref (G.1 109)), (3, .int ((nI i) + 1))]) [1, 2, 3, 0] rfl ?_
              refine J.to ?_ ?_ (ih6 _ ?_ (i + 1) hlt6 rfl)
              · first | (rfl) | fail
              · first | (first | rfl | (simp only [nI_s]; done) | (simp only [nI_s, it_s]; done) | (simp [nI_s, it_s, zc15, zc35]; done)) | fail
              · first | (omega) | fail
            · skip
              have hlt31 := ct_go hi_j zc35
              refine j_aload_n hx d_Coast_markMadeRows_38 rfl 2 rfl ?_
              refine j_iload hx d_Coast_markMadeRows_39 5 rfl ?_
              refine j_iload hx d_Coast_markMadeRows_41 4 rfl ?_
              refine j_iload_n hx d_Coast_markMadeRows_43 rfl 1 rfl ?_
              refine j_callSi hx (c_Coast_rowFrom hG (mmI (mmD (fl σ 110 256 (fun _ => 0)) n i) (dP (mmD (fl σ 110 256 (fun _ => 0)) n i) (nI i)) n j) (nI j) (rg ((mmD (fl σ 110 256 (fun _ => 0)) n i) (15 + 1)) 3 (nI i)) n) mo_Coast_rowFrom t_509 t_508 (by decide) rfl rfl (Nat.le_of_ble_eq_true rfl) d_Coast_markMadeRows_44 ?_
              refine j_iconst (v := 1) hx d_Coast_markMadeRows_47 (by decide) ?_
              refine j_callVv hx (c_Row_set hG ir_109 (mmI (mmD (fl σ 110 256 (fun _ => 0)) n i) (dP (mmD (fl σ 110 256 (fun _ => 0)) n i) (nI i)) n j) (rof (nI j) (rg ((mmD (fl σ 110 256 (fun _ => 0)) n i) (15 + 1)) 3 (nI i)) n) 1) mo_Row_set mv_Row_set t_514 (by decide) rfl (by decide) (sh_109 _ _) rfl rfl (Nat.le_of_ble_eq_true rfl) d_Coast_markMadeRows_48 ?_
              refine j_iinc hx [(5, .int ((nI j) + 1)), (0, .ref (G.1 4)), (1, .int n), (2, .ref (G.1 109)), (3, .int (nI i)), (4, .int (rg ((mmD (fl σ 110 256 (fun _ => 0)) n i) (15 + 1)) 3 (nI i)))] d_Coast_markMadeRows_51 5 rfl rfl (by decide) rfl ?_
              refine j_goto (tgt := 31) hx d_Coast_markMadeRows_54 (by decide) ?_
              refine J.lsub (ls' := [(0, .ref (G.1 4)), (1, .int n), (2, .ref (G.1 109)), (3, .int (nI i)), (4, .int (rg ((mmD (fl σ 110 256 (fun _ => 0)) n i) (15 + 1)) 3 (nI i))), (5, .int ((nI j) + 1))]) [1, 2, 3, 4, 5, 0] rfl ?_
              refine J.to ?_ ?_ (ih31 _ ?_ (j + 1) hlt31 rfl)
              · first | (rfl) | fail
              · first | (first | rfl | (simp only [nI_s]; done) | (simp only [nI_s, it_s]; done) | (simp [nI_s, it_s, zc15, zc35]; done)) | fail
              · first | (omega) | fail
        refine J.lsub (ls' := [(0, .ref (G.1 4)), (1, .int n), (2, .ref (G.1 109)), (3, .int (nI i)), (4, .int (rg ((mmD (fl σ 110 256 (fun _ => 0)) n i) (15 + 1)) 3 (nI i))), (5, .int 0)]) [2, 3, 4, 5, 1, 0] rfl ?_
        refine J.to ?_ ?_ (hl31 _ 0 (Nat.zero_le _) rfl)
        · first | (rfl) | fail
        · first | (first | rfl | (simp only [nI_s]; done) | (simp only [nI_s, it_s]; done) | (simp [nI_s, it_s, zc15]; done)) | fail
  refine J.lsub (ls' := [(0, .ref (G.1 4)), (1, .int n), (2, .ref (G.1 109)), (3, .int 0)]) [1, 2, 3, 0] rfl ?_
  refine J.to ?_ ?_ (hl6 _ 0 (Nat.zero_le _) rfl)
  · first | (rfl) | fail
  · first | (first | rfl | (simp only [nI_s]; done) | (simp only [nI_s, it_s]; done) | (simp [nI_s, it_s, ]; done)) | fail

set_option maxRecDepth 20000 in
set_option maxHeartbeats 4000000 in
theorem c_FlashLog_readLine {l : Launch} {G : Gz} (hG : zI G) (σ : St) : MV l G y_FlashLog_readLine prog_3_method_6_code 3 5 [.ref (G.1 71), .ref (G.1 1)] σ (lnS σ) := by
  refine MV.of hG (by decide) (Nat.le_of_ble_eq_true rfl) (fun X hx hq => ?_)
  show J l G X 3 σ 0 [(0, .ref (G.1 71)), (1, .ref (G.1 1))] []
  refine j_aload_n hx d_FlashLog_readLine_0 rfl 1 rfl ?_
  refine j_iconst (v := 0) hx d_FlashLog_readLine_1 (by decide) ?_
  refine j_bipush (v := 59) hx d_FlashLog_readLine_2 (by decide) ?_
  refine j_callVi hx (c_Tape_numberIn hG σ 0 59) mo_Tape_numberIn mv_Tape_numberIn t_953 (by decide) rfl (by decide) (sh_1 _ _) rfl rfl (Nat.le_of_ble_eq_true rfl) d_FlashLog_readLine_4 ?_
  refine j_istore_n hx [(2, .int (nuV (nu1 σ))), (0, .ref (G.1 71)), (1, .ref (G.1 1))] d_FlashLog_readLine_7 rfl (by decide) rfl ?_
  refine j_aload_n hx d_FlashLog_readLine_8 rfl 1 rfl ?_
  refine j_get hx ck_FlashLog 0 (by decide) t_183 (by decide) (sh_71 _ _) rfl d_FlashLog_readLine_9 ?_
  refine j_iload_n hx d_FlashLog_readLine_12 rfl 0 rfl ?_
  refine j_callVi hx (c_Row_getA hG ir_72 73 rfl (nuS σ 0 59) (nuV (nu1 σ))) mo_Row_get mv_Row_get t_954 (by decide) rfl (by decide) (sh_72 _ _) rfl rfl (Nat.le_of_ble_eq_true rfl) d_FlashLog_readLine_13 ?_
  refine j_if_eq (tgt := 24) hx d_FlashLog_readLine_16 (by decide) (fun zc16 => ?_) (fun zc16 => ?_)
  · skip
    obtain ⟨s9_1, eg_1⟩ : ∃ z : St, z = ln1 σ := ⟨_, rfl⟩
    refine J.to (σ' := s9_1) (by rw [eg_1]; unfold ln1; first | (rw [if_pos zc16]; done) | (rw [if_neg zc16]; done)) rfl ?_
    refine j_aload_n hx d_FlashLog_readLine_24 rfl 1 rfl ?_
    refine j_get hx ck_FlashLog 1 (by decide) t_184 (by decide) (sh_71 _ _) rfl d_FlashLog_readLine_25 ?_
    refine j_bipush (v := 12) hx d_FlashLog_readLine_28 (by decide) ?_
    refine j_icmp_lt (tgt := 38) hx d_FlashLog_readLine_30 (by decide) (fun zc30 => ?_) (fun zc30 => ?_)
    · skip
      obtain ⟨s9_2, eg_2⟩ : ∃ z : St, z = ln2 s9_1 := ⟨_, rfl⟩
      refine J.to (σ' := s9_2) (by rw [eg_2]; unfold ln2; first | (rw [if_pos zc30]; done) | (rw [if_neg zc30]; done)) rfl ?_
      refine j_aload_n hx d_FlashLog_readLine_38 rfl 1 rfl ?_
      refine j_get hx ck_FlashLog 0 (by decide) t_183 (by decide) (sh_71 _ _) rfl d_FlashLog_readLine_39 ?_
      refine j_iload_n hx d_FlashLog_readLine_42 rfl 0 rfl ?_
      refine j_aload_n hx d_FlashLog_readLine_43 rfl 2 rfl ?_
      refine j_iconst (v := 0) hx d_FlashLog_readLine_44 (by decide) ?_
      refine j_iconst (v := 1) hx d_FlashLog_readLine_45 (by decide) ?_
      refine j_callVi hx (c_Tape_numberIn hG s9_2 0 1) mo_Tape_numberIn mv_Tape_numberIn t_953 (by decide) rfl (by decide) (sh_1 _ _) rfl rfl (Nat.le_of_ble_eq_true rfl) d_FlashLog_readLine_46 ?_
      refine j_if_ne (tgt := 56) hx d_FlashLog_readLine_49 (by decide) (fun zc49 => ?_) (fun zc49 => ?_)
      · skip
        refine j_iconst (v := 2) hx d_FlashLog_readLine_56 (by decide) ?_
        refine j_callVv hx (c_Row_set hG ir_72 (nuS s9_2 0 1) (nuV (nu1 σ)) 2) mo_Row_set mv_Row_set t_956 (by decide) rfl (by decide) (sh_72 _ _) rfl rfl (Nat.le_of_ble_eq_true rfl) d_FlashLog_readLine_57 ?_
        obtain ⟨s9_3, eg_3⟩ : ∃ z : St, z = ln3 s9_2 (nuV (nu1 σ)) := ⟨_, rfl⟩
        refine J.to (σ' := s9_3) (by rw [eg_3]; unfold ln3; first | (rw [if_pos zc49]; done) | (rw [if_neg zc49]; done)) rfl ?_
        refine j_aload_n hx d_FlashLog_readLine_60 rfl 2 rfl ?_
        refine j_aload_n hx d_FlashLog_readLine_61 rfl 2 rfl ?_
        refine j_bipush (v := 59) hx d_FlashLog_readLine_62 (by decide) ?_
        refine j_callVi hx (c_Tape_take hG s9_3 59) mo_Tape_take mv_Tape_take t_957 (by decide) rfl (by decide) (sh_1 _ _) rfl rfl (Nat.le_of_ble_eq_true rfl) d_FlashLog_readLine_64 ?_
        refine j_callVv hx (c_Tape_require hG (tkS s9_3 59) (b2 (tkP s9_3 59))) mo_Tape_require mv_Tape_require t_958 (by decide) rfl (by decide) (sh_1 _ _) rfl rfl (Nat.le_of_ble_eq_true rfl) d_FlashLog_readLine_67 ?_
        obtain ⟨s9_4, eg_4⟩ : ∃ z : St, z = tkR s9_3 59 := ⟨_, rfl⟩
        refine J.to (σ' := s9_4) (by rw [eg_4]; first | done | rfl) rfl ?_
        refine j_aload_n hx d_FlashLog_readLine_70 rfl 1 rfl ?_
        refine j_dup hx d_FlashLog_readLine_71 rfl ?_
        refine j_get hx ck_FlashLog 1 (by decide) t_184 (by decide) (sh_71 _ _) rfl d_FlashLog_readLine_72 ?_
        refine j_iconst (v := 1) hx d_FlashLog_readLine_75 (by decide) ?_
        refine j_iadd hx d_FlashLog_readLine_76 ?_
        refine j_put hx ck_FlashLog 1 (by decide) t_184 (by decide) (sh_71 _ _) rfl (Nat.le_of_ble_eq_true rfl) (sh_71 _ _) d_FlashLog_readLine_77 ?_
        exact j_vret hx hq d_FlashLog_readLine_80 (by first | (rw [eg_4, eg_3, eg_2, eg_1]; rfl) | fail)
      · skip
        refine j_iconst (v := 1) hx d_FlashLog_readLine_52 (by decide) ?_
        refine j_goto (tgt := 57) hx d_FlashLog_readLine_53 (by decide) ?_
        refine j_callVv hx (c_Row_set hG ir_72 (nuS s9_2 0 1) (nuV (nu1 σ)) 1) mo_Row_set mv_Row_set t_956 (by decide) rfl (by decide) (sh_72 _ _) rfl rfl (Nat.le_of_ble_eq_true rfl) d_FlashLog_readLine_57 ?_
        obtain ⟨s9_3, eg_3⟩ : ∃ z : St, z = ln3 s9_2 (nuV (nu1 σ)) := ⟨_, rfl⟩
        refine J.to (σ' := s9_3) (by rw [eg_3]; unfold ln3; first | (rw [if_pos zc49]; done) | (rw [if_neg zc49]; done)) rfl ?_
        refine j_aload_n hx d_FlashLog_readLine_60 rfl 2 rfl ?_
        refine j_aload_n hx d_FlashLog_readLine_61 rfl 2 rfl ?_
        refine j_bipush (v := 59) hx d_FlashLog_readLine_62 (by decide) ?_
        refine j_callVi hx (c_Tape_take hG s9_3 59) mo_Tape_take mv_Tape_take t_957 (by decide) rfl (by decide) (sh_1 _ _) rfl rfl (Nat.le_of_ble_eq_true rfl) d_FlashLog_readLine_64 ?_
        refine j_callVv hx (c_Tape_require hG (tkS s9_3 59) (b2 (tkP s9_3 59))) mo_Tape_require mv_Tape_require t_958 (by decide) rfl (by decide) (sh_1 _ _) rfl rfl (Nat.le_of_ble_eq_true rfl) d_FlashLog_readLine_67 ?_
        obtain ⟨s9_4, eg_4⟩ : ∃ z : St, z = tkR s9_3 59 := ⟨_, rfl⟩
        refine J.to (σ' := s9_4) (by rw [eg_4]; first | done | rfl) rfl ?_
        refine j_aload_n hx d_FlashLog_readLine_70 rfl 1 rfl ?_
        refine j_dup hx d_FlashLog_readLine_71 rfl ?_
        refine j_get hx ck_FlashLog 1 (by decide) t_184 (by decide) (sh_71 _ _) rfl d_FlashLog_readLine_72 ?_
        refine j_iconst (v := 1) hx d_FlashLog_readLine_75 (by decide) ?_
        refine j_iadd hx d_FlashLog_readLine_76 ?_
        refine j_put hx ck_FlashLog 1 (by decide) t_184 (by decide) (sh_71 _ _) rfl (Nat.le_of_ble_eq_true rfl) (sh_71 _ _) d_FlashLog_readLine_77 ?_
        exact j_vret hx hq d_FlashLog_readLine_80 (by first | (rw [eg_4, eg_3, eg_2, eg_1]; rfl) | fail)
    · skip
      refine j_aload_n hx d_FlashLog_readLine_33 rfl 2 rfl ?_
      refine j_iconst (v := 3) hx d_FlashLog_readLine_34 (by decide) ?_
      refine j_callVv hx (c_Tape_blameItem hG s9_1 3) mo_Tape_blameItem mv_Tape_blameItem t_955 (by decide) rfl (by decide) (sh_1 _ _) rfl rfl (Nat.le_of_ble_eq_true rfl) d_FlashLog_readLine_35 ?_
      obtain ⟨s9_2, eg_2⟩ : ∃ z : St, z = ln2 s9_1 := ⟨_, rfl⟩
      refine J.to (σ' := s9_2) (by rw [eg_2]; unfold ln2; first | (rw [if_pos zc30]; done) | (rw [if_neg zc30]; done)) rfl ?_
      refine j_aload_n hx d_FlashLog_readLine_38 rfl 1 rfl ?_
      refine j_get hx ck_FlashLog 0 (by decide) t_183 (by decide) (sh_71 _ _) rfl d_FlashLog_readLine_39 ?_
      refine j_iload_n hx d_FlashLog_readLine_42 rfl 0 rfl ?_
      refine j_aload_n hx d_FlashLog_readLine_43 rfl 2 rfl ?_
      refine j_iconst (v := 0) hx d_FlashLog_readLine_44 (by decide) ?_
      refine j_iconst (v := 1) hx d_FlashLog_readLine_45 (by decide) ?_
      refine j_callVi hx (c_Tape_numberIn hG s9_2 0 1) mo_Tape_numberIn mv_Tape_numberIn t_953 (by decide) rfl (by decide) (sh_1 _ _) rfl rfl (Nat.le_of_ble_eq_true rfl) d_FlashLog_readLine_46 ?_
      refine j_if_ne (tgt := 56) hx d_FlashLog_readLine_49 (by decide) (fun zc49 => ?_) (fun zc49 => ?_)
      · skip
        refine j_iconst (v := 2) hx d_FlashLog_readLine_56 (by decide) ?_
        refine j_callVv hx (c_Row_set hG ir_72 (nuS s9_2 0 1) (nuV (nu1 σ)) 2) mo_Row_set mv_Row_set t_956 (by decide) rfl (by decide) (sh_72 _ _) rfl rfl (Nat.le_of_ble_eq_true rfl) d_FlashLog_readLine_57 ?_
        obtain ⟨s9_3, eg_3⟩ : ∃ z : St, z = ln3 s9_2 (nuV (nu1 σ)) := ⟨_, rfl⟩
        refine J.to (σ' := s9_3) (by rw [eg_3]; unfold ln3; first | (rw [if_pos zc49]; done) | (rw [if_neg zc49]; done)) rfl ?_
        refine j_aload_n hx d_FlashLog_readLine_60 rfl 2 rfl ?_
        refine j_aload_n hx d_FlashLog_readLine_61 rfl 2 rfl ?_
        refine j_bipush (v := 59) hx d_FlashLog_readLine_62 (by decide) ?_
        refine j_callVi hx (c_Tape_take hG s9_3 59) mo_Tape_take mv_Tape_take t_957 (by decide) rfl (by decide) (sh_1 _ _) rfl rfl (Nat.le_of_ble_eq_true rfl) d_FlashLog_readLine_64 ?_
        refine j_callVv hx (c_Tape_require hG (tkS s9_3 59) (b2 (tkP s9_3 59))) mo_Tape_require mv_Tape_require t_958 (by decide) rfl (by decide) (sh_1 _ _) rfl rfl (Nat.le_of_ble_eq_true rfl) d_FlashLog_readLine_67 ?_
        obtain ⟨s9_4, eg_4⟩ : ∃ z : St, z = tkR s9_3 59 := ⟨_, rfl⟩
        refine J.to (σ' := s9_4) (by rw [eg_4]; first | done | rfl) rfl ?_
        refine j_aload_n hx d_FlashLog_readLine_70 rfl 1 rfl ?_
        refine j_dup hx d_FlashLog_readLine_71 rfl ?_
        refine j_get hx ck_FlashLog 1 (by decide) t_184 (by decide) (sh_71 _ _) rfl d_FlashLog_readLine_72 ?_
        refine j_iconst (v := 1) hx d_FlashLog_readLine_75 (by decide) ?_
        refine j_iadd hx d_FlashLog_readLine_76 ?_
        refine j_put hx ck_FlashLog 1 (by decide) t_184 (by decide) (sh_71 _ _) rfl (Nat.le_of_ble_eq_true rfl) (sh_71 _ _) d_FlashLog_readLine_77 ?_
        exact j_vret hx hq d_FlashLog_readLine_80 (by first | (rw [eg_4, eg_3, eg_2, eg_1]; rfl) | fail)
      · skip
        refine j_iconst (v := 1) hx d_FlashLog_readLine_52 (by decide) ?_
        refine j_goto (tgt := 57) hx d_FlashLog_readLine_53 (by decide) ?_
        refine j_callVv hx (c_Row_set hG ir_72 (nuS s9_2 0 1) (nuV (nu1 σ)) 1) mo_Row_set mv_Row_set t_956 (by decide) rfl (by decide) (sh_72 _ _) rfl rfl (Nat.le_of_ble_eq_true rfl) d_FlashLog_readLine_57 ?_
        obtain ⟨s9_3, eg_3⟩ : ∃ z : St, z = ln3 s9_2 (nuV (nu1 σ)) := ⟨_, rfl⟩
        refine J.to (σ' := s9_3) (by rw [eg_3]; unfold ln3; first | (rw [if_pos zc49]; done) | (rw [if_neg zc49]; done)) rfl ?_
        refine j_aload_n hx d_FlashLog_readLine_60 rfl 2 rfl ?_
        refine j_aload_n hx d_FlashLog_readLine_61 rfl 2 rfl ?_
        refine j_bipush (v := 59) hx d_FlashLog_readLine_62 (by decide) ?_
        refine j_callVi hx (c_Tape_take hG s9_3 59) mo_Tape_take mv_Tape_take t_957 (by decide) rfl (by decide) (sh_1 _ _) rfl rfl (Nat.le_of_ble_eq_true rfl) d_FlashLog_readLine_64 ?_
        refine j_callVv hx (c_Tape_require hG (tkS s9_3 59) (b2 (tkP s9_3 59))) mo_Tape_require mv_Tape_require t_958 (by decide) rfl (by decide) (sh_1 _ _) rfl rfl (Nat.le_of_ble_eq_true rfl) d_FlashLog_readLine_67 ?_
        obtain ⟨s9_4, eg_4⟩ : ∃ z : St, z = tkR s9_3 59 := ⟨_, rfl⟩
        refine J.to (σ' := s9_4) (by rw [eg_4]; first | done | rfl) rfl ?_
        refine j_aload_n hx d_FlashLog_readLine_70 rfl 1 rfl ?_
        refine j_dup hx d_FlashLog_readLine_71 rfl ?_
        refine j_get hx ck_FlashLog 1 (by decide) t_184 (by decide) (sh_71 _ _) rfl d_FlashLog_readLine_72 ?_
        refine j_iconst (v := 1) hx d_FlashLog_readLine_75 (by decide) ?_
        refine j_iadd hx d_FlashLog_readLine_76 ?_
        refine j_put hx ck_FlashLog 1 (by decide) t_184 (by decide) (sh_71 _ _) rfl (Nat.le_of_ble_eq_true rfl) (sh_71 _ _) d_FlashLog_readLine_77 ?_
        exact j_vret hx hq d_FlashLog_readLine_80 (by first | (rw [eg_4, eg_3, eg_2, eg_1]; rfl) | fail)
  · skip
    refine j_aload_n hx d_FlashLog_readLine_19 rfl 2 rfl ?_
    refine j_iconst (v := 2) hx d_FlashLog_readLine_20 (by decide) ?_
    refine j_callVv hx (c_Tape_blameItem hG (nuS σ 0 59) 2) mo_Tape_blameItem mv_Tape_blameItem t_955 (by decide) rfl (by decide) (sh_1 _ _) rfl rfl (Nat.le_of_ble_eq_true rfl) d_FlashLog_readLine_21 ?_
    obtain ⟨s9_1, eg_1⟩ : ∃ z : St, z = ln1 σ := ⟨_, rfl⟩
    refine J.to (σ' := s9_1) (by rw [eg_1]; unfold ln1; first | (rw [if_pos zc16]; done) | (rw [if_neg zc16]; done)) rfl ?_
    refine j_aload_n hx d_FlashLog_readLine_24 rfl 1 rfl ?_
    refine j_get hx ck_FlashLog 1 (by decide) t_184 (by decide) (sh_71 _ _) rfl d_FlashLog_readLine_25 ?_
    refine j_bipush (v := 12) hx d_FlashLog_readLine_28 (by decide) ?_
    refine j_icmp_lt (tgt := 38) hx d_FlashLog_readLine_30 (by decide) (fun zc30 => ?_) (fun zc30 => ?_)
    · skip
      obtain ⟨s9_2, eg_2⟩ : ∃ z : St, z = ln2 s9_1 := ⟨_, rfl⟩
      refine J.to (σ' := s9_2) (by rw [eg_2]; unfold ln2; first | (rw [if_pos zc30]; done) | (rw [if_neg zc30]; done)) rfl ?_
      refine j_aload_n hx d_FlashLog_readLine_38 rfl 1 rfl ?_
      refine j_get hx ck_FlashLog 0 (by decide) t_183 (by decide) (sh_71 _ _) rfl d_FlashLog_readLine_39 ?_
      refine j_iload_n hx d_FlashLog_readLine_42 rfl 0 rfl ?_
      refine j_aload_n hx d_FlashLog_readLine_43 rfl 2 rfl ?_
      refine j_iconst (v := 0) hx d_FlashLog_readLine_44 (by decide) ?_
      refine j_iconst (v := 1) hx d_FlashLog_readLine_45 (by decide) ?_
      refine j_callVi hx (c_Tape_numberIn hG s9_2 0 1) mo_Tape_numberIn mv_Tape_numberIn t_953 (by decide) rfl (by decide) (sh_1 _ _) rfl rfl (Nat.le_of_ble_eq_true rfl) d_FlashLog_readLine_46 ?_
      refine j_if_ne (tgt := 56) hx d_FlashLog_readLine_49 (by decide) (fun zc49 => ?_) (fun zc49 => ?_)
      · skip
        refine j_iconst (v := 2) hx d_FlashLog_readLine_56 (by decide) ?_
        refine j_callVv hx (c_Row_set hG ir_72 (nuS s9_2 0 1) (nuV (nu1 σ)) 2) mo_Row_set mv_Row_set t_956 (by decide) rfl (by decide) (sh_72 _ _) rfl rfl (Nat.le_of_ble_eq_true rfl) d_FlashLog_readLine_57 ?_
        obtain ⟨s9_3, eg_3⟩ : ∃ z : St, z = ln3 s9_2 (nuV (nu1 σ)) := ⟨_, rfl⟩
        refine J.to (σ' := s9_3) (by rw [eg_3]; unfold ln3; first | (rw [if_pos zc49]; done) | (rw [if_neg zc49]; done)) rfl ?_
        refine j_aload_n hx d_FlashLog_readLine_60 rfl 2 rfl ?_
        refine j_aload_n hx d_FlashLog_readLine_61 rfl 2 rfl ?_
        refine j_bipush (v := 59) hx d_FlashLog_readLine_62 (by decide) ?_
        refine j_callVi hx (c_Tape_take hG s9_3 59) mo_Tape_take mv_Tape_take t_957 (by decide) rfl (by decide) (sh_1 _ _) rfl rfl (Nat.le_of_ble_eq_true rfl) d_FlashLog_readLine_64 ?_
        refine j_callVv hx (c_Tape_require hG (tkS s9_3 59) (b2 (tkP s9_3 59))) mo_Tape_require mv_Tape_require t_958 (by decide) rfl (by decide) (sh_1 _ _) rfl rfl (Nat.le_of_ble_eq_true rfl) d_FlashLog_readLine_67 ?_
        obtain ⟨s9_4, eg_4⟩ : ∃ z : St, z = tkR s9_3 59 := ⟨_, rfl⟩
        refine J.to (σ' := s9_4) (by rw [eg_4]; first | done | rfl) rfl ?_
        refine j_aload_n hx d_FlashLog_readLine_70 rfl 1 rfl ?_
        refine j_dup hx d_FlashLog_readLine_71 rfl ?_
        refine j_get hx ck_FlashLog 1 (by decide) t_184 (by decide) (sh_71 _ _) rfl d_FlashLog_readLine_72 ?_
        refine j_iconst (v := 1) hx d_FlashLog_readLine_75 (by decide) ?_
        refine j_iadd hx d_FlashLog_readLine_76 ?_
        refine j_put hx ck_FlashLog 1 (by decide) t_184 (by decide) (sh_71 _ _) rfl (Nat.le_of_ble_eq_true rfl) (sh_71 _ _) d_FlashLog_readLine_77 ?_
        exact j_vret hx hq d_FlashLog_readLine_80 (by first | (rw [eg_4, eg_3, eg_2, eg_1]; rfl) | fail)
      · skip
        refine j_iconst (v := 1) hx d_FlashLog_readLine_52 (by decide) ?_
        refine j_goto (tgt := 57) hx d_FlashLog_readLine_53 (by decide) ?_
        refine j_callVv hx (c_Row_set hG ir_72 (nuS s9_2 0 1) (nuV (nu1 σ)) 1) mo_Row_set mv_Row_set t_956 (by decide) rfl (by decide) (sh_72 _ _) rfl rfl (Nat.le_of_ble_eq_true rfl) d_FlashLog_readLine_57 ?_
        obtain ⟨s9_3, eg_3⟩ : ∃ z : St, z = ln3 s9_2 (nuV (nu1 σ)) := ⟨_, rfl⟩
        refine J.to (σ' := s9_3) (by rw [eg_3]; unfold ln3; first | (rw [if_pos zc49]; done) | (rw [if_neg zc49]; done)) rfl ?_
        refine j_aload_n hx d_FlashLog_readLine_60 rfl 2 rfl ?_
        refine j_aload_n hx d_FlashLog_readLine_61 rfl 2 rfl ?_
        refine j_bipush (v := 59) hx d_FlashLog_readLine_62 (by decide) ?_
        refine j_callVi hx (c_Tape_take hG s9_3 59) mo_Tape_take mv_Tape_take t_957 (by decide) rfl (by decide) (sh_1 _ _) rfl rfl (Nat.le_of_ble_eq_true rfl) d_FlashLog_readLine_64 ?_
        refine j_callVv hx (c_Tape_require hG (tkS s9_3 59) (b2 (tkP s9_3 59))) mo_Tape_require mv_Tape_require t_958 (by decide) rfl (by decide) (sh_1 _ _) rfl rfl (Nat.le_of_ble_eq_true rfl) d_FlashLog_readLine_67 ?_
        obtain ⟨s9_4, eg_4⟩ : ∃ z : St, z = tkR s9_3 59 := ⟨_, rfl⟩
        refine J.to (σ' := s9_4) (by rw [eg_4]; first | done | rfl) rfl ?_
        refine j_aload_n hx d_FlashLog_readLine_70 rfl 1 rfl ?_
        refine j_dup hx d_FlashLog_readLine_71 rfl ?_
        refine j_get hx ck_FlashLog 1 (by decide) t_184 (by decide) (sh_71 _ _) rfl d_FlashLog_readLine_72 ?_
        refine j_iconst (v := 1) hx d_FlashLog_readLine_75 (by decide) ?_
        refine j_iadd hx d_FlashLog_readLine_76 ?_
        refine j_put hx ck_FlashLog 1 (by decide) t_184 (by decide) (sh_71 _ _) rfl (Nat.le_of_ble_eq_true rfl) (sh_71 _ _) d_FlashLog_readLine_77 ?_
        exact j_vret hx hq d_FlashLog_readLine_80 (by first | (rw [eg_4, eg_3, eg_2, eg_1]; rfl) | fail)
    · skip
      refine j_aload_n hx d_FlashLog_readLine_33 rfl 2 rfl ?_
      refine j_iconst (v := 3) hx d_FlashLog_readLine_34 (by decide) ?_
      refine j_callVv hx (c_Tape_blameItem hG s9_1 3) mo_Tape_blameItem mv_Tape_blameItem t_955 (by decide) rfl (by decide) (sh_1 _ _) rfl rfl (Nat.le_of_ble_eq_true rfl) d_FlashLog_readLine_35 ?_
      obtain ⟨s9_2, eg_2⟩ : ∃ z : St, z = ln2 s9_1 := ⟨_, rfl⟩
      refine J.to (σ' := s9_2) (by rw [eg_2]; unfold ln2; first | (rw [if_pos zc30]; done) | (rw [if_neg zc30]; done)) rfl ?_
      refine j_aload_n hx d_FlashLog_readLine_38 rfl 1 rfl ?_
      refine j_get hx ck_FlashLog 0 (by decide) t_183 (by decide) (sh_71 _ _) rfl d_FlashLog_readLine_39 ?_
      refine j_iload_n hx d_FlashLog_readLine_42 rfl 0 rfl ?_
      refine j_aload_n hx d_FlashLog_readLine_43 rfl 2 rfl ?_
      refine j_iconst (v := 0) hx d_FlashLog_readLine_44 (by decide) ?_
      refine j_iconst (v := 1) hx d_FlashLog_readLine_45 (by decide) ?_
      refine j_callVi hx (c_Tape_numberIn hG s9_2 0 1) mo_Tape_numberIn mv_Tape_numberIn t_953 (by decide) rfl (by decide) (sh_1 _ _) rfl rfl (Nat.le_of_ble_eq_true rfl) d_FlashLog_readLine_46 ?_
      refine j_if_ne (tgt := 56) hx d_FlashLog_readLine_49 (by decide) (fun zc49 => ?_) (fun zc49 => ?_)
      · skip
        refine j_iconst (v := 2) hx d_FlashLog_readLine_56 (by decide) ?_
        refine j_callVv hx (c_Row_set hG ir_72 (nuS s9_2 0 1) (nuV (nu1 σ)) 2) mo_Row_set mv_Row_set t_956 (by decide) rfl (by decide) (sh_72 _ _) rfl rfl (Nat.le_of_ble_eq_true rfl) d_FlashLog_readLine_57 ?_
        obtain ⟨s9_3, eg_3⟩ : ∃ z : St, z = ln3 s9_2 (nuV (nu1 σ)) := ⟨_, rfl⟩
        refine J.to (σ' := s9_3) (by rw [eg_3]; unfold ln3; first | (rw [if_pos zc49]; done) | (rw [if_neg zc49]; done)) rfl ?_
        refine j_aload_n hx d_FlashLog_readLine_60 rfl 2 rfl ?_
        refine j_aload_n hx d_FlashLog_readLine_61 rfl 2 rfl ?_
        refine j_bipush (v := 59) hx d_FlashLog_readLine_62 (by decide) ?_
        refine j_callVi hx (c_Tape_take hG s9_3 59) mo_Tape_take mv_Tape_take t_957 (by decide) rfl (by decide) (sh_1 _ _) rfl rfl (Nat.le_of_ble_eq_true rfl) d_FlashLog_readLine_64 ?_
        refine j_callVv hx (c_Tape_require hG (tkS s9_3 59) (b2 (tkP s9_3 59))) mo_Tape_require mv_Tape_require t_958 (by decide) rfl (by decide) (sh_1 _ _) rfl rfl (Nat.le_of_ble_eq_true rfl) d_FlashLog_readLine_67 ?_
        obtain ⟨s9_4, eg_4⟩ : ∃ z : St, z = tkR s9_3 59 := ⟨_, rfl⟩
        refine J.to (σ' := s9_4) (by rw [eg_4]; first | done | rfl) rfl ?_
        refine j_aload_n hx d_FlashLog_readLine_70 rfl 1 rfl ?_
        refine j_dup hx d_FlashLog_readLine_71 rfl ?_
        refine j_get hx ck_FlashLog 1 (by decide) t_184 (by decide) (sh_71 _ _) rfl d_FlashLog_readLine_72 ?_
        refine j_iconst (v := 1) hx d_FlashLog_readLine_75 (by decide) ?_
        refine j_iadd hx d_FlashLog_readLine_76 ?_
        refine j_put hx ck_FlashLog 1 (by decide) t_184 (by decide) (sh_71 _ _) rfl (Nat.le_of_ble_eq_true rfl) (sh_71 _ _) d_FlashLog_readLine_77 ?_
        exact j_vret hx hq d_FlashLog_readLine_80 (by first | (rw [eg_4, eg_3, eg_2, eg_1]; rfl) | fail)
      · skip
        refine j_iconst (v := 1) hx d_FlashLog_readLine_52 (by decide) ?_
        refine j_goto (tgt := 57) hx d_FlashLog_readLine_53 (by decide) ?_
        refine j_callVv hx (c_Row_set hG ir_72 (nuS s9_2 0 1) (nuV (nu1 σ)) 1) mo_Row_set mv_Row_set t_956 (by decide) rfl (by decide) (sh_72 _ _) rfl rfl (Nat.le_of_ble_eq_true rfl) d_FlashLog_readLine_57 ?_
        obtain ⟨s9_3, eg_3⟩ : ∃ z : St, z = ln3 s9_2 (nuV (nu1 σ)) := ⟨_, rfl⟩
        refine J.to (σ' := s9_3) (by rw [eg_3]; unfold ln3; first | (rw [if_pos zc49]; done) | (rw [if_neg zc49]; done)) rfl ?_
        refine j_aload_n hx d_FlashLog_readLine_60 rfl 2 rfl ?_
        refine j_aload_n hx d_FlashLog_readLine_61 rfl 2 rfl ?_
        refine j_bipush (v := 59) hx d_FlashLog_readLine_62 (by decide) ?_
        refine j_callVi hx (c_Tape_take hG s9_3 59) mo_Tape_take mv_Tape_take t_957 (by decide) rfl (by decide) (sh_1 _ _) rfl rfl (Nat.le_of_ble_eq_true rfl) d_FlashLog_readLine_64 ?_
        refine j_callVv hx (c_Tape_require hG (tkS s9_3 59) (b2 (tkP s9_3 59))) mo_Tape_require mv_Tape_require t_958 (by decide) rfl (by decide) (sh_1 _ _) rfl rfl (Nat.le_of_ble_eq_true rfl) d_FlashLog_readLine_67 ?_
        obtain ⟨s9_4, eg_4⟩ : ∃ z : St, z = tkR s9_3 59 := ⟨_, rfl⟩
        refine J.to (σ' := s9_4) (by rw [eg_4]; first | done | rfl) rfl ?_
        refine j_aload_n hx d_FlashLog_readLine_70 rfl 1 rfl ?_
        refine j_dup hx d_FlashLog_readLine_71 rfl ?_
        refine j_get hx ck_FlashLog 1 (by decide) t_184 (by decide) (sh_71 _ _) rfl d_FlashLog_readLine_72 ?_
        refine j_iconst (v := 1) hx d_FlashLog_readLine_75 (by decide) ?_
        refine j_iadd hx d_FlashLog_readLine_76 ?_
        refine j_put hx ck_FlashLog 1 (by decide) t_184 (by decide) (sh_71 _ _) rfl (Nat.le_of_ble_eq_true rfl) (sh_71 _ _) d_FlashLog_readLine_77 ?_
        exact j_vret hx hq d_FlashLog_readLine_80 (by first | (rw [eg_4, eg_3, eg_2, eg_1]; rfl) | fail)

set_option maxRecDepth 20000 in
set_option maxHeartbeats 4000000 in
theorem c_FlashLog_readFrom {l : Launch} {G : Gz} (hG : zI G) (σ : St) : MV l G y_FlashLog_readFrom prog_3_method_5_code 3 6 [.ref (G.1 71), .ref (G.1 1)] σ (lgS σ) := by
  refine MV.of hG (by decide) (Nat.le_of_ble_eq_true rfl) (fun X hx hq => ?_)
  show J l G X 3 σ 0 [(0, .ref (G.1 71)), (1, .ref (G.1 1))] []
  refine j_aload_n hx d_FlashLog_readFrom_0 rfl 0 rfl ?_
  refine j_callVv hx (c_FlashLog_reset hG isLog_71 σ) mo_FlashLog_reset mv_FlashLog_reset t_946 (by decide) rfl (by decide) (sh_71 _ _) rfl rfl (Nat.le_of_ble_eq_true rfl) d_FlashLog_readFrom_1 ?_
  obtain ⟨s9_1, eg_1⟩ : ∃ z : St, z = lg0 σ := ⟨_, rfl⟩
  refine J.to (σ' := s9_1) (by rw [eg_1]; first | done | rfl) rfl ?_
  refine j_iconst (v := 0) hx d_FlashLog_readFrom_4 (by decide) ?_
  refine j_istore_n hx [(2, .int 0), (0, .ref (G.1 71)), (1, .ref (G.1 1))] d_FlashLog_readFrom_5 rfl (by decide) rfl ?_
  have hl6 : ∀ (N9 : Nat) (i : Nat) (s : St), (i ≤ 13) → (lgR (13 - i) s = lgR 13 s9_1) → 13 - i = N9 → J l G X 3 s 6 [(0, .ref (G.1 71)), (1, .ref (G.1 1)), (2, .int (nI i))] [] := by
    intro N9
    induction N9 using Nat.strongRecOn with
    | _ N9 ih6 =>
      intro i s hi_i hr hm6
      refine j_iload_n hx d_FlashLog_readFrom_6 rfl 2 rfl ?_
      refine j_bipush (v := 12) hx d_FlashLog_readFrom_7 (by decide) ?_
      refine j_icmp_gt (tgt := 37) hx d_FlashLog_readFrom_9 (by decide) (fun zc9 => ?_) (fun zc9 => ?_)
      · skip
        obtain rfl := eq_61 (n := 12) (by decide) hi_i zc9
        exact j_vret hx hq d_FlashLog_readFrom_37 (by first | (rw [eg_1] at hr; first | exact (lgR_end (N := 13)).symm.trans hr | exact (lgR_stop (Or.inl zc16)).symm.trans hr | exact (lgR_stop (Or.inr zc23)).symm.trans hr) | fail)
      · skip
        have hlt6 := lt_61 (n := 12) (by decide) hi_i zc9
        refine j_aload_n hx d_FlashLog_readFrom_12 rfl 1 rfl ?_
        refine j_callVi hx (c_Tape_fine hG s) mo_Tape_fine mv_Tape_fine t_947 (by decide) rfl (by decide) (sh_1 _ _) rfl rfl (Nat.le_of_ble_eq_true rfl) d_FlashLog_readFrom_13 ?_
        refine j_if_eq (tgt := 37) hx d_FlashLog_readFrom_16 (by decide) (fun zc16 => ?_) (fun zc16 => ?_)
        · skip
          exact j_vret hx hq d_FlashLog_readFrom_37 (by first | (rw [eg_1] at hr; first | exact (lgR_end (N := 13)).symm.trans hr | exact (lgR_stop (Or.inl zc16)).symm.trans hr | exact (lgR_stop (Or.inr zc23)).symm.trans hr) | fail)
        · skip
          refine j_aload_n hx d_FlashLog_readFrom_19 rfl 1 rfl ?_
          refine j_callVi hx (c_Tape_ended hG s) mo_Tape_ended mv_Tape_ended t_948 (by decide) rfl (by decide) (sh_1 _ _) rfl rfl (Nat.le_of_ble_eq_true rfl) d_FlashLog_readFrom_20 ?_
          refine j_if_ne (tgt := 37) hx d_FlashLog_readFrom_23 (by decide) (fun zc23 => ?_) (fun zc23 => ?_)
          · skip
            exact j_vret hx hq d_FlashLog_readFrom_37 (by first | (rw [eg_1] at hr; first | exact (lgR_end (N := 13)).symm.trans hr | exact (lgR_stop (Or.inl zc16)).symm.trans hr | exact (lgR_stop (Or.inr zc23)).symm.trans hr) | fail)
          · skip
            refine j_aload_n hx d_FlashLog_readFrom_26 rfl 0 rfl ?_
            refine j_aload_n hx d_FlashLog_readFrom_27 rfl 1 rfl ?_
            refine j_callVv hx (c_FlashLog_readLine hG s) mo_FlashLog_readLine mv_FlashLog_readLine t_949 (by decide) rfl (by decide) (sh_71 _ _) rfl rfl (Nat.le_of_ble_eq_true rfl) d_FlashLog_readFrom_28 ?_
            refine j_iinc hx [(2, .int ((nI i) + 1)), (0, .ref (G.1 71)), (1, .ref (G.1 1))] d_FlashLog_readFrom_31 2 rfl rfl (by decide) rfl ?_
            refine j_goto (tgt := 6) hx d_FlashLog_readFrom_34 (by decide) ?_
            refine J.lsub (ls' := [(0, .ref (G.1 71)), (1, .ref (G.1 1)), (2, .int ((nI i) + 1))]) [1, 2, 0] rfl ?_
            refine J.to ?_ ?_ (ih6 _ ?_ (i + 1) (lnS s) hlt6 ((lgR_go hlt6 zc16 zc23).symm.trans hr) rfl)
            · first | (rfl) | fail
            · first | (simp only [nI_s]) | fail
            · first | (omega) | fail
  refine J.lsub (ls' := [(0, .ref (G.1 71)), (1, .ref (G.1 1)), (2, .int 0)]) [1, 2, 0] rfl ?_
  refine J.to ?_ ?_ (hl6 _ 0 s9_1 (Nat.zero_le _) rfl rfl)
  · first | (rfl) | fail
  · first | (rfl) | fail

set_option maxRecDepth 20000 in
set_option maxHeartbeats 4000000 in
theorem c_DL_feed {l : Launch} {G : Gz} (hG : zI G) (σ : St) (fa : Int32) (fb : Int32) (fc : Int32) (fd : Int32) (fe : Int32) : MI l G y_DL_feed prog_1_method_2_code 6 .int 3 [.ref (G.1 0), .int fa, .int fb, .int fc, .int fd, .int fe] σ (if σ 1 1 + 20 ≤ 600 then (fdS (fdS (fdS (fdS (fdS σ fa) fb) fc) fd) fe) 1 1 else -1) (if σ 1 1 + 20 ≤ 600 then fdS (fdS (fdS (fdS (fdS σ fa) fb) fc) fd) fe else σ) := by
  refine MI.of hG (by decide) (Nat.le_of_ble_eq_true rfl) (fun X hx hq => ?_)
  show J l G X 6 σ 0 [(0, .ref (G.1 0)), (1, .int fa), (2, .int fb), (3, .int fc), (4, .int fd), (5, .int fe)] []
  refine j_aload_n hx d_DL_feed_0 rfl 0 rfl ?_
  refine j_get hx ck_DL 0 (by decide) t_326 (by decide) (sh_0 _ _) rfl d_DL_feed_1 ?_
  refine j_callVi hx (c_Tape_held hG σ) mo_Tape_held mv_Tape_held t_382 (by decide) rfl (by decide) (sh_1 _ _) rfl rfl (Nat.le_of_ble_eq_true rfl) d_DL_feed_4 ?_
  refine j_bipush (v := 20) hx d_DL_feed_7 (by decide) ?_
  refine j_iadd hx d_DL_feed_9 ?_
  refine j_sipush (v := 600) hx d_DL_feed_10 (by decide) ?_
  refine j_icmp_le (tgt := 18) hx d_DL_feed_13 (by decide) (fun zc13 => ?_) (fun zc13 => ?_)
  · skip
    refine j_aload_n hx d_DL_feed_18 rfl 0 rfl ?_
    refine j_get hx ck_DL 0 (by decide) t_326 (by decide) (sh_0 _ _) rfl d_DL_feed_19 ?_
    refine j_iload_n hx d_DL_feed_22 rfl 1 rfl ?_
    refine j_callVv hx (c_Tape_append hG σ fa) mo_Tape_append mv_Tape_append t_386 (by decide) rfl (by decide) (sh_1 _ _) rfl rfl (Nat.le_of_ble_eq_true rfl) d_DL_feed_23 ?_
    obtain ⟨s9_1, eg_1⟩ : ∃ z : St, z = fdS σ fa := ⟨_, rfl⟩
    refine J.to (σ' := s9_1) (by rw [eg_1]; first | done | rfl) rfl ?_
    refine j_aload_n hx d_DL_feed_26 rfl 0 rfl ?_
    refine j_get hx ck_DL 0 (by decide) t_326 (by decide) (sh_0 _ _) rfl d_DL_feed_27 ?_
    refine j_iload_n hx d_DL_feed_30 rfl 2 rfl ?_
    refine j_callVv hx (c_Tape_append hG s9_1 fb) mo_Tape_append mv_Tape_append t_386 (by decide) rfl (by decide) (sh_1 _ _) rfl rfl (Nat.le_of_ble_eq_true rfl) d_DL_feed_31 ?_
    obtain ⟨s9_2, eg_2⟩ : ∃ z : St, z = fdS s9_1 fb := ⟨_, rfl⟩
    refine J.to (σ' := s9_2) (by rw [eg_2]; first | done | rfl) rfl ?_
    refine j_aload_n hx d_DL_feed_34 rfl 0 rfl ?_
    refine j_get hx ck_DL 0 (by decide) t_326 (by decide) (sh_0 _ _) rfl d_DL_feed_35 ?_
    refine j_iload_n hx d_DL_feed_38 rfl 3 rfl ?_
    refine j_callVv hx (c_Tape_append hG s9_2 fc) mo_Tape_append mv_Tape_append t_386 (by decide) rfl (by decide) (sh_1 _ _) rfl rfl (Nat.le_of_ble_eq_true rfl) d_DL_feed_39 ?_
    obtain ⟨s9_3, eg_3⟩ : ∃ z : St, z = fdS s9_2 fc := ⟨_, rfl⟩
    refine J.to (σ' := s9_3) (by rw [eg_3]; first | done | rfl) rfl ?_
    refine j_aload_n hx d_DL_feed_42 rfl 0 rfl ?_
    refine j_get hx ck_DL 0 (by decide) t_326 (by decide) (sh_0 _ _) rfl d_DL_feed_43 ?_
    refine j_iload hx d_DL_feed_46 4 rfl ?_
    refine j_callVv hx (c_Tape_append hG s9_3 fd) mo_Tape_append mv_Tape_append t_386 (by decide) rfl (by decide) (sh_1 _ _) rfl rfl (Nat.le_of_ble_eq_true rfl) d_DL_feed_48 ?_
    obtain ⟨s9_4, eg_4⟩ : ∃ z : St, z = fdS s9_3 fd := ⟨_, rfl⟩
    refine J.to (σ' := s9_4) (by rw [eg_4]; first | done | rfl) rfl ?_
    refine j_aload_n hx d_DL_feed_51 rfl 0 rfl ?_
    refine j_get hx ck_DL 0 (by decide) t_326 (by decide) (sh_0 _ _) rfl d_DL_feed_52 ?_
    refine j_iload hx d_DL_feed_55 5 rfl ?_
    refine j_callVv hx (c_Tape_append hG s9_4 fe) mo_Tape_append mv_Tape_append t_386 (by decide) rfl (by decide) (sh_1 _ _) rfl rfl (Nat.le_of_ble_eq_true rfl) d_DL_feed_57 ?_
    obtain ⟨s9_5, eg_5⟩ : ∃ z : St, z = fdS s9_4 fe := ⟨_, rfl⟩
    refine J.to (σ' := s9_5) (by rw [eg_5]; first | done | rfl) rfl ?_
    refine j_aload_n hx d_DL_feed_60 rfl 0 rfl ?_
    refine j_get hx ck_DL 0 (by decide) t_326 (by decide) (sh_0 _ _) rfl d_DL_feed_61 ?_
    refine j_callVi hx (c_Tape_held hG s9_5) mo_Tape_held mv_Tape_held t_382 (by decide) rfl (by decide) (sh_1 _ _) rfl rfl (Nat.le_of_ble_eq_true rfl) d_DL_feed_64 ?_
    exact j_iret hx hq rfl d_DL_feed_67 (by first | (first | exact (if_neg zc13).symm | (rw [if_pos zc13, eg_5, eg_4, eg_3, eg_2, eg_1]; done)) | fail) (by first | (first | exact (if_neg zc13).symm | (rw [if_pos zc13, eg_5, eg_4, eg_3, eg_2, eg_1]; done)) | fail)
  · skip
    refine j_iconst (v := (-1)) hx d_DL_feed_16 (by decide) ?_
    exact j_iret hx hq rfl d_DL_feed_17 (by first | (first | exact (if_neg zc13).symm | (rw [if_pos zc13, eg_5, eg_4, eg_3, eg_2, eg_1]; done)) | fail) (by first | (first | exact (if_neg zc13).symm | (rw [if_pos zc13, eg_5, eg_4, eg_3, eg_2, eg_1]; done)) | fail)

set_option maxRecDepth 20000 in
set_option maxHeartbeats 4000000 in
theorem c_DL_fault {l : Launch} {G : Gz} (hG : zI G) (σ : St) : MI l G y_DL_fault prog_1_method_7_code 1 .int 2 [.ref (G.1 0)] σ (σ 1 6) σ := by
  refine MI.of hG (by decide) (Nat.le_of_ble_eq_true rfl) (fun X hx hq => ?_)
  show J l G X 1 σ 0 [(0, .ref (G.1 0))] []
  refine j_aload_n hx d_DL_fault_0 rfl 0 rfl ?_
  refine j_get hx ck_DL 0 (by decide) t_326 (by decide) (sh_0 _ _) rfl d_DL_fault_1 ?_
  refine j_callVi hx (c_Tape_faultPlace hG σ) mo_Tape_faultPlace mv_Tape_faultPlace t_395 (by decide) rfl (by decide) (sh_1 _ _) rfl rfl (Nat.le_of_ble_eq_true rfl) d_DL_fault_4 ?_
  exact j_iret hx hq rfl d_DL_fault_7 (by first | (first | rfl | (simp only []; done) | (simp []; done)) | fail) (by first | (first | rfl | (simp only []; done) | (simp []; done)) | fail)

set_option maxRecDepth 20000 in
set_option maxHeartbeats 4000000 in
theorem c_DL_undo {l : Launch} {G : Gz} (hG : zI G) (σ : St) : MI l G y_DL_undo prog_1_method_8_code 1 .int 4 [.ref (G.1 0)] σ (if σ 102 3 = 0 then -1 else (uwS (up σ 0 14 0)) 102 3) (if σ 102 3 = 0 then σ else uwS (up σ 0 14 0)) := by
  refine MI.of hG (by decide) (Nat.le_of_ble_eq_true rfl) (fun X hx hq => ?_)
  show J l G X 1 σ 0 [(0, .ref (G.1 0))] []
  refine j_aload_n hx d_DL_undo_0 rfl 0 rfl ?_
  refine j_get hx ck_DL 12 (by decide) t_338 (by decide) (sh_0 _ _) rfl d_DL_undo_1 ?_
  refine j_callVi hx (c_History_works hG σ) mo_History_works mv_History_works t_403 (by decide) rfl (by decide) (sh_102 _ _) rfl rfl (Nat.le_of_ble_eq_true rfl) d_DL_undo_4 ?_
  refine j_if_ne (tgt := 12) hx d_DL_undo_7 (by decide) (fun zc7 => ?_) (fun zc7 => ?_)
  · skip
    refine j_aload_n hx d_DL_undo_12 rfl 0 rfl ?_
    refine j_iconst (v := 0) hx d_DL_undo_13 (by decide) ?_
    refine j_put hx ck_DL 14 (by decide) t_340 (by decide) (sh_0 _ _) rfl (Nat.le_of_ble_eq_true rfl) (sh_0 _ _) d_DL_undo_14 ?_
    refine j_aload_n hx d_DL_undo_17 rfl 0 rfl ?_
    refine j_get hx ck_DL 12 (by decide) t_338 (by decide) (sh_0 _ _) rfl d_DL_undo_18 ?_
    refine j_aload_n hx d_DL_undo_21 rfl 0 rfl ?_
    refine j_get hx ck_DL 8 (by decide) t_334 (by decide) (sh_0 _ _) rfl d_DL_undo_22 ?_
    refine j_callVi hx (c_History_undoWork hG (up σ 0 14 0)) mo_History_undoWork mv_History_undoWork t_407 (by decide) rfl (by decide) (sh_102 _ _) rfl rfl (Nat.le_of_ble_eq_true rfl) d_DL_undo_25 ?_
    exact j_iret hx hq rfl d_DL_undo_28 (by first | (first | exact (if_pos zc7).symm | exact (if_neg zc7).symm) | fail) (by first | (first | exact (if_pos zc7).symm | exact (if_neg zc7).symm) | fail)
  · skip
    refine j_iconst (v := (-1)) hx d_DL_undo_10 (by decide) ?_
    exact j_iret hx hq rfl d_DL_undo_11 (by first | (first | exact (if_pos zc7).symm | exact (if_neg zc7).symm) | fail) (by first | (first | exact (if_pos zc7).symm | exact (if_neg zc7).symm) | fail)

set_option maxRecDepth 20000 in
set_option maxHeartbeats 4000000 in
theorem c_DL_restore {l : Launch} {G : Gz} (hG : zI G) (σ : St) : MI l G y_DL_restore prog_1_method_37_code 1 .int 4 [.ref (G.1 0)] σ (if σ 102 4 = 0 then -1 else (tiS (up σ 0 14 0)) 102 4) (if σ 102 4 = 0 then σ else tiS (up σ 0 14 0)) := by
  refine MI.of hG (by decide) (Nat.le_of_ble_eq_true rfl) (fun X hx hq => ?_)
  show J l G X 1 σ 0 [(0, .ref (G.1 0))] []
  refine j_aload_n hx d_DL_restore_0 rfl 0 rfl ?_
  refine j_get hx ck_DL 12 (by decide) t_338 (by decide) (sh_0 _ _) rfl d_DL_restore_1 ?_
  refine j_callVi hx (c_History_images hG σ) mo_History_images mv_History_images t_523 (by decide) rfl (by decide) (sh_102 _ _) rfl rfl (Nat.le_of_ble_eq_true rfl) d_DL_restore_4 ?_
  refine j_if_ne (tgt := 12) hx d_DL_restore_7 (by decide) (fun zc7 => ?_) (fun zc7 => ?_)
  · skip
    refine j_aload_n hx d_DL_restore_12 rfl 0 rfl ?_
    refine j_iconst (v := 0) hx d_DL_restore_13 (by decide) ?_
    refine j_put hx ck_DL 14 (by decide) t_340 (by decide) (sh_0 _ _) rfl (Nat.le_of_ble_eq_true rfl) (sh_0 _ _) d_DL_restore_14 ?_
    refine j_aload_n hx d_DL_restore_17 rfl 0 rfl ?_
    refine j_get hx ck_DL 12 (by decide) t_338 (by decide) (sh_0 _ _) rfl d_DL_restore_18 ?_
    refine j_aload_n hx d_DL_restore_21 rfl 0 rfl ?_
    refine j_get hx ck_DL 8 (by decide) t_334 (by decide) (sh_0 _ _) rfl d_DL_restore_22 ?_
    refine j_callVi hx (c_History_takeImage hG (up σ 0 14 0)) mo_History_takeImage mv_History_takeImage t_536 (by decide) rfl (by decide) (sh_102 _ _) rfl rfl (Nat.le_of_ble_eq_true rfl) d_DL_restore_25 ?_
    exact j_iret hx hq rfl d_DL_restore_28 (by first | (first | exact (if_pos zc7).symm | exact (if_neg zc7).symm) | fail) (by first | (first | exact (if_pos zc7).symm | exact (if_neg zc7).symm) | fail)
  · skip
    refine j_iconst (v := (-1)) hx d_DL_restore_10 (by decide) ?_
    exact j_iret hx hq rfl d_DL_restore_11 (by first | (first | exact (if_pos zc7).symm | exact (if_neg zc7).symm) | fail) (by first | (first | exact (if_pos zc7).symm | exact (if_neg zc7).symm) | fail)

set_option maxRecDepth 20000 in
set_option maxHeartbeats 4000000 in
theorem c_DL_image {l : Launch} {G : Gz} (hG : zI G) (σ : St) : MI l G y_DL_image prog_1_method_36_code 1 .int 4 [.ref (G.1 0)] σ (if σ 102 4 < 3 then (kiS σ) 102 4 else -1) (if σ 102 4 < 3 then kiS σ else σ) := by
  refine MI.of hG (by decide) (Nat.le_of_ble_eq_true rfl) (fun X hx hq => ?_)
  show J l G X 1 σ 0 [(0, .ref (G.1 0))] []
  refine j_aload_n hx d_DL_image_0 rfl 0 rfl ?_
  refine j_get hx ck_DL 12 (by decide) t_338 (by decide) (sh_0 _ _) rfl d_DL_image_1 ?_
  refine j_callVi hx (c_History_images hG σ) mo_History_images mv_History_images t_523 (by decide) rfl (by decide) (sh_102 _ _) rfl rfl (Nat.le_of_ble_eq_true rfl) d_DL_image_4 ?_
  refine j_iconst (v := 3) hx d_DL_image_7 (by decide) ?_
  refine j_icmp_lt (tgt := 15) hx d_DL_image_8 (by decide) (fun zc8 => ?_) (fun zc8 => ?_)
  · skip
    refine j_aload_n hx d_DL_image_15 rfl 0 rfl ?_
    refine j_get hx ck_DL 12 (by decide) t_338 (by decide) (sh_0 _ _) rfl d_DL_image_16 ?_
    refine j_aload_n hx d_DL_image_19 rfl 0 rfl ?_
    refine j_get hx ck_DL 8 (by decide) t_334 (by decide) (sh_0 _ _) rfl d_DL_image_20 ?_
    refine j_callVi hx (c_History_keepImage hG σ) mo_History_keepImage mv_History_keepImage t_527 (by decide) rfl (by decide) (sh_102 _ _) rfl rfl (Nat.le_of_ble_eq_true rfl) d_DL_image_23 ?_
    exact j_iret hx hq rfl d_DL_image_26 (by first | (first | exact (if_pos zc8).symm | exact (if_neg zc8).symm) | fail) (by first | (first | exact (if_pos zc8).symm | exact (if_neg zc8).symm) | fail)
  · skip
    refine j_iconst (v := (-1)) hx d_DL_image_11 (by decide) ?_
    refine j_goto (tgt := 26) hx d_DL_image_12 (by decide) ?_
    exact j_iret hx hq rfl d_DL_image_26 (by first | (first | exact (if_pos zc8).symm | exact (if_neg zc8).symm) | fail) (by first | (first | exact (if_pos zc8).symm | exact (if_neg zc8).symm) | fail)

set_option maxRecDepth 20000 in
set_option maxHeartbeats 4000000 in
theorem c_DL_status {l : Launch} {G : Gz} (hG : zI G) (σ : St) (w : Int32) : MI l G y_DL_status prog_1_method_38_code 2 .int 1 [.ref (G.1 0), .int w] σ (if w = 0 then σ 0 15 else if w = 1 then σ 0 16 else -1) σ := by
  refine MI.of hG (by decide) (Nat.le_of_ble_eq_true rfl) (fun X hx hq => ?_)
  show J l G X 2 σ 0 [(0, .ref (G.1 0)), (1, .int w)] []
  refine j_iload_n hx d_DL_status_0 rfl 1 rfl ?_
  refine j_if_ne (tgt := 9) hx d_DL_status_1 (by decide) (fun zc1 => ?_) (fun zc1 => ?_)
  · skip
    refine j_iload_n hx d_DL_status_9 rfl 1 rfl ?_
    refine j_iconst (v := 1) hx d_DL_status_10 (by decide) ?_
    refine j_icmp_ne (tgt := 21) hx d_DL_status_11 (by decide) (fun zc11 => ?_) (fun zc11 => ?_)
    · skip
      refine j_iconst (v := (-1)) hx d_DL_status_21 (by decide) ?_
      exact j_iret hx hq rfl d_DL_status_22 (by first | (simp [zc1, zc11]) | fail) (by first | (first | rfl | (simp only [zc1, zc11]; done) | (simp [zc1, zc11]; done)) | fail)
    · skip
      refine j_aload_n hx d_DL_status_14 rfl 0 rfl ?_
      refine j_get hx ck_DL 16 (by decide) t_342 (by decide) (sh_0 _ _) rfl d_DL_status_15 ?_
      refine j_goto (tgt := 22) hx d_DL_status_18 (by decide) ?_
      exact j_iret hx hq rfl d_DL_status_22 (by first | (simp [zc1, zc11]) | fail) (by first | (first | rfl | (simp only [zc1, zc11]; done) | (simp [zc1, zc11]; done)) | fail)
  · skip
    refine j_aload_n hx d_DL_status_4 rfl 0 rfl ?_
    refine j_get hx ck_DL 15 (by decide) t_341 (by decide) (sh_0 _ _) rfl d_DL_status_5 ?_
    exact j_iret hx hq rfl d_DL_status_8 (by first | (simp [zc1]) | fail) (by first | (first | rfl | (simp only [zc1]; done) | (simp [zc1]; done)) | fail)

set_option maxRecDepth 20000 in
set_option maxHeartbeats 4000000 in
theorem c_DL_count {l : Launch} {G : Gz} (hG : zI G) (σ : St) (w : Int32) : MI l G y_DL_count prog_1_method_39_code 2 .int 2 [.ref (G.1 0), .int w] σ (if w = 0 then σ 102 4 else if w = 1 then σ 1 1 else if w = 2 then σ 102 3 else -1) σ := by
  refine MI.of hG (by decide) (Nat.le_of_ble_eq_true rfl) (fun X hx hq => ?_)
  show J l G X 2 σ 0 [(0, .ref (G.1 0)), (1, .int w)] []
  refine j_iload_n hx d_DL_count_0 rfl 1 rfl ?_
  refine J.sw (x := w) 0 (fun zc1_0 => ?_) (fun zc1_0 => ?_)
  · skip
    refine j_tableIn (x := w) (tgt := 28) (off := 27) hx d_DL_count_1 (by rw [zc1_0]; decide) (by rw [zc1_0]; decide) (by rw [zc1_0]; decide) (by decide) ?_
    refine j_aload_n hx d_DL_count_28 rfl 0 rfl ?_
    refine j_get hx ck_DL 12 (by decide) t_338 (by decide) (sh_0 _ _) rfl d_DL_count_29 ?_
    refine j_callVi hx (c_History_images hG σ) mo_History_images mv_History_images t_523 (by decide) rfl (by decide) (sh_102 _ _) rfl rfl (Nat.le_of_ble_eq_true rfl) d_DL_count_32 ?_
    exact j_iret hx hq rfl d_DL_count_35 (by first | (simp [zc1_0]) | fail) (by first | (first | rfl | (simp only [zc1_0]; done) | (simp [zc1_0]; done)) | fail)
  refine J.sw (x := w) 1 (fun zc1_1 => ?_) (fun zc1_1 => ?_)
  · skip
    refine j_tableIn (x := w) (tgt := 36) (off := 35) hx d_DL_count_1 (by rw [zc1_1]; decide) (by rw [zc1_1]; decide) (by rw [zc1_1]; decide) (by decide) ?_
    refine j_aload_n hx d_DL_count_36 rfl 0 rfl ?_
    refine j_get hx ck_DL 0 (by decide) t_326 (by decide) (sh_0 _ _) rfl d_DL_count_37 ?_
    refine j_callVi hx (c_Tape_held hG σ) mo_Tape_held mv_Tape_held t_382 (by decide) rfl (by decide) (sh_1 _ _) rfl rfl (Nat.le_of_ble_eq_true rfl) d_DL_count_40 ?_
    exact j_iret hx hq rfl d_DL_count_43 (by first | (simp [zc1_0, zc1_1]) | fail) (by first | (first | rfl | (simp only [zc1_0, zc1_1]; done) | (simp [zc1_0, zc1_1]; done)) | fail)
  refine J.sw (x := w) 2 (fun zc1_2 => ?_) (fun zc1_2 => ?_)
  · skip
    refine j_tableIn (x := w) (tgt := 44) (off := 43) hx d_DL_count_1 (by rw [zc1_2]; decide) (by rw [zc1_2]; decide) (by rw [zc1_2]; decide) (by decide) ?_
    refine j_aload_n hx d_DL_count_44 rfl 0 rfl ?_
    refine j_get hx ck_DL 12 (by decide) t_338 (by decide) (sh_0 _ _) rfl d_DL_count_45 ?_
    refine j_callVi hx (c_History_works hG σ) mo_History_works mv_History_works t_403 (by decide) rfl (by decide) (sh_102 _ _) rfl rfl (Nat.le_of_ble_eq_true rfl) d_DL_count_48 ?_
    exact j_iret hx hq rfl d_DL_count_51 (by first | (simp [zc1_0, zc1_1, zc1_2]) | fail) (by first | (first | rfl | (simp only [zc1_0, zc1_1, zc1_2]; done) | (simp [zc1_0, zc1_1, zc1_2]; done)) | fail)
  refine j_tableOut (x := w) (tgt := 52) hx d_DL_count_1 (by have h0 := sw_ne zc1_0; have h1 := sw_ne zc1_1; have h2 := sw_ne zc1_2; have q0 : Int32.toInt 0 = 0 := rfl; have q1 : Int32.toInt 1 = 1 := rfl; have q2 : Int32.toInt 2 = 2 := rfl; omega) (by decide) ?_
  refine j_iconst (v := (-1)) hx d_DL_count_52 (by decide) ?_
  exact j_iret hx hq rfl d_DL_count_53 (by first | (simp [zc1_0, zc1_1, zc1_2]) | fail) (by first | (first | rfl | (simp only [zc1_0, zc1_1, zc1_2]; done) | (simp [zc1_0, zc1_1, zc1_2]; done)) | fail)

set_option maxRecDepth 20000 in
set_option maxHeartbeats 4000000 in
theorem c_DL_flashesSeen {l : Launch} {G : Gz} (hG : zI G) (σ : St) (c : Int32) (m : Int32) : MI l G y_DL_flashesSeen prog_1_method_44_code 4 .int 4 [.ref (G.1 0), .int c, .int m] σ (fsn σ c m) σ := by
  refine MI.of hG (by decide) (Nat.le_of_ble_eq_true rfl) (fun X hx hq => ?_)
  show J l G X 4 σ 0 [(0, .ref (G.1 0)), (1, .int c), (2, .int m)] []
  refine j_aload_n hx d_DL_flashesSeen_0 rfl 0 rfl ?_
  refine j_get hx ck_DL 8 (by decide) t_334 (by decide) (sh_0 _ _) rfl d_DL_flashesSeen_1 ?_
  refine j_aload_n hx d_DL_flashesSeen_4 rfl 0 rfl ?_
  refine j_get hx ck_DL 1 (by decide) t_327 (by decide) (sh_0 _ _) rfl d_DL_flashesSeen_5 ?_
  refine j_callVi hx (c_Nights_reach hG isNights_81 σ) mo_Nights_reach mv_Nights_reach t_1050 (by decide) rfl (by decide) (sh_81 _ _) rfl rfl (Nat.le_of_ble_eq_true rfl) d_DL_flashesSeen_8 ?_
  refine j_istore_n hx [(3, .int (rch σ 81)), (0, .ref (G.1 0)), (1, .int c), (2, .int m)] d_DL_flashesSeen_11 rfl (by decide) rfl ?_
  refine j_aload_n hx d_DL_flashesSeen_12 rfl 1 rfl ?_
  refine j_get hx ck_DL 8 (by decide) t_334 (by decide) (sh_0 _ _) rfl d_DL_flashesSeen_13 ?_
  refine j_aload_n hx d_DL_flashesSeen_16 rfl 1 rfl ?_
  refine j_get hx ck_DL 1 (by decide) t_327 (by decide) (sh_0 _ _) rfl d_DL_flashesSeen_17 ?_
  refine j_iload_n hx d_DL_flashesSeen_20 rfl 2 rfl ?_
  refine j_iload_n hx d_DL_flashesSeen_21 rfl 3 rfl ?_
  refine j_iload_n hx d_DL_flashesSeen_22 rfl 0 rfl ?_
  refine j_callVi hx (c_Nights_lightFlashes hG isNights_81 σ c m (rch σ 81)) mo_Nights_lightFlashes mv_Nights_lightFlashes t_1051 (by decide) rfl (by decide) (sh_81 _ _) rfl rfl (Nat.le_of_ble_eq_true rfl) d_DL_flashesSeen_23 ?_
  refine j_aload_n hx d_DL_flashesSeen_26 rfl 1 rfl ?_
  refine j_get hx ck_DL 8 (by decide) t_334 (by decide) (sh_0 _ _) rfl d_DL_flashesSeen_27 ?_
  refine j_aload_n hx d_DL_flashesSeen_30 rfl 1 rfl ?_
  refine j_get hx ck_DL 1 (by decide) t_327 (by decide) (sh_0 _ _) rfl d_DL_flashesSeen_31 ?_
  refine j_iload_n hx d_DL_flashesSeen_34 rfl 2 rfl ?_
  refine j_iload_n hx d_DL_flashesSeen_35 rfl 3 rfl ?_
  refine j_iload_n hx d_DL_flashesSeen_36 rfl 0 rfl ?_
  refine j_callVi hx (c_Nights_donkeyFlashes hG isNights_81 σ c m (rch σ 81)) mo_Nights_donkeyFlashes mv_Nights_donkeyFlashes t_1052 (by decide) rfl (by decide) (sh_81 _ _) rfl rfl (Nat.le_of_ble_eq_true rfl) d_DL_flashesSeen_37 ?_
  refine j_iadd hx d_DL_flashesSeen_40 ?_
  exact j_iret hx hq rfl d_DL_flashesSeen_41 (by first | (first | rfl | (simp only []; done) | (simp []; done)) | fail) (by first | (first | rfl | (simp only []; done) | (simp []; done)) | fail)

set_option maxRecDepth 20000 in
set_option maxHeartbeats 4000000 in
theorem c_DL_wreckNumber {l : Launch} {G : Gz} (hG : zI G) (σ : St) (ship : Int32) (w : Int32) (what : Int32) : MI l G y_DL_wreckNumber prog_1_method_45_code 4 .int 3 [.ref (G.1 0), .int ship, .int w, .int what] σ (wkn σ ship w what) σ := by
  refine MI.of hG (by decide) (Nat.le_of_ble_eq_true rfl) (fun X hx hq => ?_)
  show J l G X 4 σ 0 [(0, .ref (G.1 0)), (1, .int ship), (2, .int w), (3, .int what)] []
  refine j_iload_n hx d_DL_wreckNumber_0 rfl 3 rfl ?_
  refine j_if_ne (tgt := 6) hx d_DL_wreckNumber_1 (by decide) (fun zc1 => ?_) (fun zc1 => ?_)
  · skip
    refine j_iload_n hx d_DL_wreckNumber_6 rfl 3 rfl ?_
    refine j_iconst (v := 1) hx d_DL_wreckNumber_7 (by decide) ?_
    refine j_icmp_ne (tgt := 25) hx d_DL_wreckNumber_8 (by decide) (fun zc8 => ?_) (fun zc8 => ?_)
    · skip
      refine j_aload_n hx d_DL_wreckNumber_25 rfl 0 rfl ?_
      refine j_get hx ck_DL 1 (by decide) t_327 (by decide) (sh_0 _ _) rfl d_DL_wreckNumber_26 ?_
      refine j_iload_n hx d_DL_wreckNumber_29 rfl 1 rfl ?_
      refine j_iload_n hx d_DL_wreckNumber_30 rfl 2 rfl ?_
      refine j_callVi hx (c_Coast_alive hG σ ship w) mo_Coast_alive mv_Coast_alive t_1077 (by decide) rfl (by decide) (sh_4 _ _) rfl rfl (Nat.le_of_ble_eq_true rfl) d_DL_wreckNumber_31 ?_
      exact j_iret hx hq rfl d_DL_wreckNumber_34 (by first | (unfold wkn; simp [zc1, zc8]) | fail) (by first | (first | rfl | (simp only [zc1, zc8]; done) | (simp [zc1, zc8]; done)) | fail)
    · skip
      refine j_aload_n hx d_DL_wreckNumber_11 rfl 0 rfl ?_
      refine j_get hx ck_DL 1 (by decide) t_327 (by decide) (sh_0 _ _) rfl d_DL_wreckNumber_12 ?_
      refine j_get hx ck_Coast 6 (by decide) t_105 (by decide) (sh_4 _ _) rfl d_DL_wreckNumber_15 ?_
      refine j_iload_n hx d_DL_wreckNumber_18 rfl 1 rfl ?_
      refine j_callVi hx (c_Row_getA hG ir_17 18 rfl σ ship) mo_Row_get mv_Row_get t_475 (by decide) rfl (by decide) (sh_17 _ _) rfl rfl (Nat.le_of_ble_eq_true rfl) d_DL_wreckNumber_19 ?_
      refine j_goto (tgt := 34) hx d_DL_wreckNumber_22 (by decide) ?_
      exact j_iret hx hq rfl d_DL_wreckNumber_34 (by first | (unfold wkn; simp [zc1, zc8]) | fail) (by first | (first | rfl | (simp only [zc1, zc8]; done) | (simp [zc1, zc8]; done)) | fail)
  · skip
    refine j_iconst (v := 1) hx d_DL_wreckNumber_4 (by decide) ?_
    exact j_iret hx hq rfl d_DL_wreckNumber_5 (by first | (unfold wkn; simp [zc1]) | fail) (by first | (first | rfl | (simp only [zc1]; done) | (simp [zc1]; done)) | fail)

set_option maxRecDepth 20000 in
set_option maxHeartbeats 4000000 in
theorem c_DL_firstUnmade {l : Launch} {G : Gz} (hG : zI G) (σ : St) (n : Int32) : MI l G y_DL_firstUnmade prog_1_method_46_code 3 .int 2 [.ref (G.1 0), .int n] σ (fuF σ (ct (1 <<< (n &&& 31)))) σ := by
  refine MI.of hG (by decide) (Nat.le_of_ble_eq_true rfl) (fun X hx hq => ?_)
  show J l G X 3 σ 0 [(0, .ref (G.1 0)), (1, .int n)] []
  refine j_iconst (v := 0) hx d_DL_firstUnmade_0 (by decide) ?_
  refine j_istore_n hx [(2, .int 0), (0, .ref (G.1 0)), (1, .int n)] d_DL_firstUnmade_1 rfl (by decide) rfl ?_
  have hl2 : ∀ (N9 : Nat) (i : Nat), (i ≤ ct (1 <<< (n &&& 31))) → (fnd (fun k => if rg (σ 110) 256 (nI k) = 0 then some (nI k) else none) i = none) → (ct (1 <<< (n &&& 31))) - i = N9 → J l G X 3 σ 2 [(0, .ref (G.1 0)), (1, .int n), (2, .int (nI i))] [] := by
    intro N9
    induction N9 using Nat.strongRecOn with
    | _ N9 ih2 =>
      intro i hi_i hg hm2
      refine j_iload_n hx d_DL_firstUnmade_2 rfl 2 rfl ?_
      refine j_iconst (v := 1) hx d_DL_firstUnmade_3 (by decide) ?_
      refine j_iload_n hx d_DL_firstUnmade_4 rfl 1 rfl ?_
      refine j_ishl hx d_DL_firstUnmade_5 ?_
      refine j_icmp_ge (tgt := 28) hx d_DL_firstUnmade_6 (by decide) (fun zc6 => ?_) (fun zc6 => ?_)
      · skip
        obtain rfl := ct_end' hi_i zc6
        refine j_iconst (v := (-1)) hx d_DL_firstUnmade_28 (by decide) ?_
        exact j_iret hx hq rfl d_DL_firstUnmade_29 (by first | (first | (unfold fuF; rw [hg]; rfl) | (unfold fuF; rw [fnd_at hg (if_pos zc17) hlt2]; rfl)) | fail) (by first | (first | rfl | (simp only [zc6]; done) | (simp [zc6]; done)) | fail)
      · skip
        have hlt2 := ct_go hi_i zc6
        refine j_aload_n hx d_DL_firstUnmade_9 rfl 0 rfl ?_
        refine j_get hx ck_DL 13 (by decide) t_339 (by decide) (sh_0 _ _) rfl d_DL_firstUnmade_10 ?_
        refine j_iload_n hx d_DL_firstUnmade_13 rfl 2 rfl ?_
        refine j_callVi hx (c_Row_getA hG ir_109 110 rfl σ (nI i)) mo_Row_get mv_Row_get t_475 (by decide) rfl (by decide) (sh_109 _ _) rfl rfl (Nat.le_of_ble_eq_true rfl) d_DL_firstUnmade_14 ?_
        refine j_if_ne (tgt := 22) hx d_DL_firstUnmade_17 (by decide) (fun zc17 => ?_) (fun zc17 => ?_)
        · skip
          refine j_iinc hx [(2, .int ((nI i) + 1)), (0, .ref (G.1 0)), (1, .int n)] d_DL_firstUnmade_22 2 rfl rfl (by decide) rfl ?_
          refine j_goto (tgt := 2) hx d_DL_firstUnmade_25 (by decide) ?_
          refine J.lsub (ls' := [(0, .ref (G.1 0)), (1, .int n), (2, .int ((nI i) + 1))]) [1, 2, 0] rfl ?_
          refine J.to ?_ ?_ (ih2 _ ?_ (i + 1) hlt2 ((fnd_s hg).trans (if_neg zc17)) rfl)
          · first | (first | rfl | (simp [zc6, zc17]; done)) | fail
          · first | (simp only [nI_s]) | fail
          · first | (omega) | fail
        · skip
          refine j_iload_n hx d_DL_firstUnmade_20 rfl 2 rfl ?_
          exact j_iret hx hq rfl d_DL_firstUnmade_21 (by first | (first | (unfold fuF; rw [hg]; rfl) | (unfold fuF; rw [fnd_at hg (if_pos zc17) hlt2]; rfl)) | fail) (by first | (first | rfl | (simp only [zc6, zc17]; done) | (simp [zc6, zc17]; done)) | fail)
  refine J.lsub (ls' := [(0, .ref (G.1 0)), (1, .int n), (2, .int 0)]) [1, 2, 0] rfl ?_
  refine J.to ?_ ?_ (hl2 _ 0 (Nat.zero_le _) rfl rfl)
  · first | (first | rfl | (simp []; done)) | fail
  · first | (first | rfl | (simp only [nI_s]; done) | (simp only [nI_s, it_s]; done) | (simp [nI_s, it_s, ]; done)) | fail

set_option maxRecDepth 20000 in
set_option maxHeartbeats 4000000 in
theorem c_DL_safe {l : Launch} {G : Gz} (hG : zI G) (σ : St) : MI l G y_DL_safe prog_1_method_17_code 3 .int 6 [.ref (G.1 0)] σ ((saF (pbS σ 81) (ct (cM (pbS σ 81) 3))).1) ((saF (pbS σ 81) (ct (cM (pbS σ 81) 3))).2) := by
  refine MI.of hG (by decide) (Nat.le_of_ble_eq_true rfl) (fun X hx hq => ?_)
  show J l G X 3 σ 0 [(0, .ref (G.1 0))] []
  refine j_aload_n hx d_DL_safe_0 rfl 0 rfl ?_
  refine j_get hx ck_DL 9 (by decide) t_335 (by decide) (sh_0 _ _) rfl d_DL_safe_1 ?_
  refine j_aload_n hx d_DL_safe_4 rfl 0 rfl ?_
  refine j_get hx ck_DL 1 (by decide) t_327 (by decide) (sh_0 _ _) rfl d_DL_safe_5 ?_
  refine j_aload_n hx d_DL_safe_8 rfl 0 rfl ?_
  refine j_get hx ck_DL 3 (by decide) t_329 (by decide) (sh_0 _ _) rfl d_DL_safe_9 ?_
  refine j_aload_n hx d_DL_safe_12 rfl 0 rfl ?_
  refine j_get hx ck_DL 8 (by decide) t_334 (by decide) (sh_0 _ _) rfl d_DL_safe_13 ?_
  refine j_callVv hx (c_Passing_begin hG isNights_81 σ) mo_Passing_begin mv_Passing_begin t_424 (by decide) rfl (by decide) (sh_84 _ _) rfl rfl (Nat.le_of_ble_eq_true rfl) d_DL_safe_16 ?_
  obtain ⟨s9_1, eg_1⟩ : ∃ z : St, z = pbS σ 81 := ⟨_, rfl⟩
  refine J.to (σ' := s9_1) (by rw [eg_1]; first | done | rfl) rfl ?_
  refine j_iconst (v := 0) hx d_DL_safe_19 (by decide) ?_
  refine j_istore_n hx [(1, .int 0), (0, .ref (G.1 0))] d_DL_safe_20 rfl (by decide) rfl ?_
  refine j_iconst (v := 0) hx d_DL_safe_21 (by decide) ?_
  refine j_istore_n hx [(2, .int 0), (1, .int 0), (0, .ref (G.1 0))] d_DL_safe_22 rfl (by decide) rfl ?_
  have hl23 : ∀ (N9 : Nat) (i : Nat), (i ≤ (ct (cM s9_1 3))) → (ct (cM s9_1 3)) - i = N9 → J l G X 3 ((saF s9_1 i).2) 23 [(0, .ref (G.1 0)), (1, .int ((saF s9_1 i).1)), (2, .int (nI i))] [] := by
    intro N9
    induction N9 using Nat.strongRecOn with
    | _ N9 ih23 =>
      intro i hi_i hm23
      refine j_iload_n hx d_DL_safe_23 rfl 2 rfl ?_
      refine j_aload_n hx d_DL_safe_24 rfl 0 rfl ?_
      refine j_get hx ck_DL 1 (by decide) t_327 (by decide) (sh_0 _ _) rfl d_DL_safe_25 ?_
      refine j_get hx ck_Coast 0 (by decide) t_85 (by decide) (sh_4 _ _) rfl d_DL_safe_28 ?_
      refine j_iconst (v := 3) hx d_DL_safe_31 (by decide) ?_
      refine j_callVi hx (c_Row_getA hG ir_5 6 rfl ((saF s9_1 i).2) 3) mo_Row_get mv_Row_get t_475 (by decide) rfl (by decide) (sh_5 _ _) rfl rfl (Nat.le_of_ble_eq_true rfl) d_DL_safe_32 ?_
      refine j_icmp_ge (tgt := 70) hx d_DL_safe_35 (by decide) (fun zc35 => ?_) (fun zc35 => ?_)
      · skip
        obtain rfl := ct_end' hi_i (by have q9 := zc35; rw [saF_o (by decide) (by decide) (by decide) (by decide)] at q9; exact q9)
        refine j_iload_n hx d_DL_safe_70 rfl 1 rfl ?_
        exact j_iret hx hq rfl d_DL_safe_71 (by first | (rw [eg_1]) | fail) (by first | (rw [eg_1]) | fail)
      · skip
        have hlt23 := ct_go hi_i (by have q9 := zc35; rw [saF_o (by decide) (by decide) (by decide) (by decide)] at q9; exact q9)
        refine j_aload_n hx d_DL_safe_38 rfl 0 rfl ?_
        refine j_get hx ck_DL 9 (by decide) t_335 (by decide) (sh_0 _ _) rfl d_DL_safe_39 ?_
        refine j_aload_n hx d_DL_safe_42 rfl 0 rfl ?_
        refine j_get hx ck_DL 1 (by decide) t_327 (by decide) (sh_0 _ _) rfl d_DL_safe_43 ?_
        refine j_aload_n hx d_DL_safe_46 rfl 0 rfl ?_
        refine j_get hx ck_DL 3 (by decide) t_329 (by decide) (sh_0 _ _) rfl d_DL_safe_47 ?_
        refine j_iload_n hx d_DL_safe_50 rfl 2 rfl ?_
        refine j_callVi hx (c_Passing_struckIn hG ((saF s9_1 i).2) (nI i)) mo_Passing_struckIn mv_Passing_struckIn t_476 (by decide) rfl (by decide) (sh_84 _ _) rfl rfl (Nat.le_of_ble_eq_true rfl) d_DL_safe_51 ?_
        refine j_iconst (v := (-1)) hx d_DL_safe_54 (by decide) ?_
        refine j_icmp_ne (tgt := 64) hx d_DL_safe_55 (by decide) (fun zc55 => ?_) (fun zc55 => ?_)
        · skip
          refine j_iinc hx [(2, .int ((nI i) + 1)), (0, .ref (G.1 0)), (1, .int ((saF s9_1 i).1))] d_DL_safe_64 2 rfl rfl (by decide) rfl ?_
          refine j_goto (tgt := 23) hx d_DL_safe_67 (by decide) ?_
          refine J.lsub (ls' := [(0, .ref (G.1 0)), (1, .int ((saF s9_1 i).1)), (2, .int ((nI i) + 1))]) [1, 2, 0] rfl ?_
          refine J.to ?_ ?_ (ih23 _ ?_ (i + 1) hlt23 rfl)
          · first | (first | (rw [saF_1 zc55]; done) | (rw [saF_2 zc55]; done)) | fail
          · first | (simp only [nI_s]; first | (rw [saF_1 zc55]; done) | (rw [saF_2 zc55]; done)) | fail
          · first | (omega) | fail
        · skip
          refine j_iload_n hx d_DL_safe_58 rfl 1 rfl ?_
          refine j_iconst (v := 1) hx d_DL_safe_59 (by decide) ?_
          refine j_iload_n hx d_DL_safe_60 rfl 2 rfl ?_
          refine j_ishl hx d_DL_safe_61 ?_
          refine j_ior hx d_DL_safe_62 ?_
          refine j_istore_n hx [(1, .int (((saF s9_1 i).1) ||| (1 <<< ((nI i) &&& 31)))), (0, .ref (G.1 0)), (2, .int (nI i))] d_DL_safe_63 rfl (by decide) rfl ?_
          refine j_iinc hx [(2, .int ((nI i) + 1)), (1, .int (((saF s9_1 i).1) ||| (1 <<< ((nI i) &&& 31)))), (0, .ref (G.1 0))] d_DL_safe_64 2 rfl rfl (by decide) rfl ?_
          refine j_goto (tgt := 23) hx d_DL_safe_67 (by decide) ?_
          refine J.lsub (ls' := [(0, .ref (G.1 0)), (1, .int (((saF s9_1 i).1) ||| (1 <<< ((nI i) &&& 31)))), (2, .int ((nI i) + 1))]) [2, 1, 0] rfl ?_
          refine J.to ?_ ?_ (ih23 _ ?_ (i + 1) hlt23 rfl)
          · first | (first | (rw [saF_1 zc55]; done) | (rw [saF_2 zc55]; done)) | fail
          · first | (simp only [nI_s]; first | (rw [saF_1 zc55]; done) | (rw [saF_2 zc55]; done)) | fail
          · first | (omega) | fail
  refine J.lsub (ls' := [(0, .ref (G.1 0)), (1, .int 0), (2, .int 0)]) [2, 1, 0] rfl ?_
  refine J.to ?_ ?_ (hl23 _ 0 (Nat.zero_le _) rfl)
  · first | (rfl) | fail
  · first | (rfl) | fail

