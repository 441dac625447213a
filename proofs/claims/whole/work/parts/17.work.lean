/-! ===== work (74: kinds 76, firsts 78, seconds 80; size 3, begun 4, done 5, refused 6): its reading ===== -/
def raF (rec : St → St) (op step : Int32) (s : St) : St := if op < 6 then rs (tkR (rec (tkR (rn1 s 77 150 step 0 30) 91)) 93) 79 150 step ((tkR (rec (tkR (rn1 s 77 150 step 0 30) 91)) 93) 74 3) else bl s 3 (s 1 4)
def ws2 (s : St) : St := rs (woS s 3) 75 150 (s 74 3) (woI s 3)
def ws3 (s : St) : St := up (ws2 s) 74 3 ((ws2 s) 74 3 + 1)
def rl3 (s : St) (st : Int32) : St := rn1 (rn1 s 77 150 st 0 (cM s 2 - 1)) 79 150 st 0 (cM (rn1 s 77 150 st 0 (cM s 2 - 1)) 0 - 1)
def rtK (rec : St → St) (op k st : Int32) (s : St) : St := if k = 0 then rn1 s 77 150 st 0 (cM s 1 - 1) else if k = 1 then rn1 s 77 150 st 0 (cM s 1 - 1) else if k = 2 then rl3 s st else if k = 3 then rn1 s 77 150 st 0 (cM s 3 - 1) else if k = 4 then s else if k = 5 then s else if k = 6 then raF rec op st s else s
def rtF (rec : St → St) (op : Int32) (s : St) : St := rtK rec op (woI s 3) (s 74 3) (ws3 s)
def stR (f : St → St) : Nat → St → St
  | 0, s => s
  | n + 1, s => if b2 (s 1 5 = 0) = 0 ∨ ¬ b2 (s 1 2 ≤ s 1 3) = 0 ∨ ¬ b2 (nxP s 93) = 0 then s else stR f n (tkR (f s) 59)
theorem stR_end {f : St → St} {N : Nat} {s : St} : stR f (N - N) s = s := by rw [Nat.sub_self, stR]
theorem stR_stop {f : St → St} {n : Nat} {s : St} (h : b2 (s 1 5 = 0) = 0 ∨ ¬ b2 (s 1 2 ≤ s 1 3) = 0 ∨ ¬ b2 (nxP s 93) = 0) : stR f n s = s := by
  cases n with
  | zero => rfl
  | succ n => rw [stR, if_pos h]
theorem stR_go {f : St → St} {N i : Nat} {s : St} (h : i < N) (h1 : ¬ b2 (s 1 5 = 0) = 0) (h2 : b2 (s 1 2 ≤ s 1 3) = 0) (h3 : b2 (nxP s 93) = 0) : stR f (N - i) s = stR f (N - (i + 1)) (tkR (f s) 59) := by
  rw [show N - i = (N - (i + 1)) + 1 by omega, stR, if_neg (fun z => z.elim h1 (fun q => q.elim (fun w => w h2) (fun w => w h3)))]
def wsF (rec : St → St) (op : Int32) (s : St) : St := stR (rtF rec op) 150 s
def wsN : Nat → Int32 → St → St
  | 0, op => wsF (fun s => s) op
  | n + 1, op => wsF (wsN n (op + 1)) op
def wkR (s : St) : St := rq (wsN 6 0 (up s 74 3 0)) (b2 ((wsN 6 0 (up s 74 3 0)) 1 2 ≤ (wsN 6 0 (up s 74 3 0)) 1 3))
/-! ..: its doing -/
def sbS (s : St) (f b : Int32) : St := if b2 (hB (rg (s 83) 29 6) f) = b then s else rs s 82 29 6 (rg (s 83) 29 6 ^^^ (1 <<< (f &&& 31)))
def sbV (s : St) (f b : Int32) : Int32 := b2 (¬ b2 (hB (rg (s 83) 29 6) f) = b)
def ldS (s : St) (d c : Int32) : St := if rg (s 83) 29 (8 + d) = c then s else rs s 82 29 (8 + d) c
def ldV (s : St) (d c : Int32) : Int32 := b2 (¬ rg (s 83) 29 (8 + d) = c)
abbrev paC (s : St) (f : Int32) : Prop := ¬ b2 (hB (rg (s 83) 29 7) f) = 0 ∨ cM s 0 = 0
def fgV (s : St) : Int32 := b2 (¬ rg (s 83) 29 1 = 1)
def dkS (s : St) (k f c : Int32) : St := if k = 0 then sbS s f 0 else if k = 1 then sbS s f 1 else if k = 2 then ldS s f c else if k = 3 then (if paC s f then s else psP s 81 f) else if k = 4 then fgS s 81 else if 500 ≤ rg (s 83) 29 0 then s else nnS s 81
def dkV (s : St) (k f c : Int32) : Int32 := if k = 0 then sbV s f 0 else if k = 1 then sbV s f 1 else if k = 2 then ldV s f c else if k = 3 then (if paC s f then 0 else 1) else if k = 4 then fgV s else if 500 ≤ rg (s 83) 29 0 then 0 else 1
def dsS (s : St) (st : Int32) : St := dkS s (rg (s 76) 150 st) (rg (s 78) 150 st) (rg (s 80) 150 st)
def dsV (s : St) (st : Int32) : Int32 := dkV s (rg (s 76) 150 st) (rg (s 78) 150 st) (rg (s 80) 150 st)
theorem nz_dkV {s : St} {k f c : Int32} : narrow .boolean (.int (dkV s k f c)) = .int (dkV s k f c) := by
  unfold dkV sbV ldV fgV
  repeat' split
  all_goals first | exact nz_b2 _ | rfl
def rb1 (s : St) : St := up s 74 4 (s 74 4 + 1)
def rb2 (s : St) (st : Int32) : St := if dsV s st = 0 then up (dsS s st) 74 6 ((dsS s st) 74 6 + 1) else up (dsS s st) 74 5 ((dsS s st) 74 5 + 1)
def rsR (ra : Int32 → St → St) (to : Int32) : Nat → Int32 → St → St
  | 0, _, s => s
  | n + 1, nx, s => if nx < to ∧ s 74 4 < 200 then (if rg ((rb1 s) 76) 150 nx = 6 then rsR ra to n (rg ((ra nx (rb1 s)) 80) 150 nx) (ra nx (rb1 s)) else rsR ra to n (nx + 1) (rb2 (rb1 s) nx)) else s
theorem rsR_stop {ra : Int32 → St → St} {to nx : Int32} {n : Nat} {s : St} (h : ¬ (nx < to ∧ s 74 4 < 200)) : rsR ra to n nx s = s := by
  cases n with
  | zero => rfl
  | succ n => rw [rsR, if_neg h]
theorem rsR_zero {ra : Int32 → St → St} {to nx i : Int32} {s : St} (h : to ≤ i) : rsR ra to (to.toInt - i.toInt).toNat nx s = s := by
  rw [i_le] at h
  rw [show (to.toInt - i.toInt).toNat = 0 by omega, rsR]
theorem rs_n {to i : Int32} (h : i < to) : (to.toInt - i.toInt).toNat = (to.toInt - (i + 1).toInt).toNat + 1 := by
  have h1 := i_s1 h
  rw [i_lt] at h
  omega
theorem rsR_1 {ra : Int32 → St → St} {to nx i : Int32} {s : St} (h : i < to) (h1 : nx < to) (h2 : s 74 4 < 200) (h3 : rg ((rb1 s) 76) 150 nx = 6) : rsR ra to (to.toInt - i.toInt).toNat nx s = rsR ra to (to.toInt - (i + 1).toInt).toNat (rg ((ra nx (rb1 s)) 80) 150 nx) (ra nx (rb1 s)) := by
  rw [rs_n h, rsR, if_pos ⟨h1, h2⟩, if_pos h3]
theorem rsR_2 {ra : Int32 → St → St} {to nx i : Int32} {s : St} (h : i < to) (h1 : nx < to) (h2 : s 74 4 < 200) (h3 : ¬ rg ((rb1 s) 76) 150 nx = 6) : rsR ra to (to.toInt - i.toInt).toNat nx s = rsR ra to (to.toInt - (i + 1).toInt).toNat (nx + 1) (rb2 (rb1 s) nx) := by
  rw [rs_n h, rsR, if_pos ⟨h1, h2⟩, if_neg h3]
def tmv (s : St) (st : Int32) : Int32 := if 30 < rg (s 78) 150 st then 30 else rg (s 78) 150 st
def raG (rec : Int32 → Int32 → St → St) (op st : Int32) (s : St) : St := if 6 < op then s else it (fun _ s => rec (st + 1) (rg (s 80) 150 st) s) s (ct (tmv s st))
def rgF (rec : Int32 → Int32 → St → St) (op frm to : Int32) (s : St) : St := rsR (raG rec (op + 1)) to (to.toInt - frm.toInt).toNat frm s
def rgN : Nat → Int32 → Int32 → Int32 → St → St
  | 0, op => rgF (fun _ _ s => s) op
  | n + 1, op => rgF (rgN n (op + 1)) op
def wr0 (s : St) : St := up (up (up s 74 4 0) 74 5 0) 74 6 0
def wrS (s : St) : St := rgN 6 0 0 ((wr0 s) 74 3) (wr0 s)

set_option maxRecDepth 20000 in
set_option maxHeartbeats 4000000 in
theorem c_Work_readAgain {l : Launch} {G : Gz} (hG : zI G) (σ : St) (op : Int32) (step : Int32) {kr : Nat} (rec : St → St) (hrec : op < 6 → ∀ σ : St, MV l G y_Work_readSteps prog_12_method_5_code 5 kr [.ref (G.1 74), .ref (G.1 1), .ref (G.1 4), .int (op + 1)] σ (rec σ)) : MV l G y_Work_readAgain prog_12_method_7_code 5 (kr + 7) [.ref (G.1 74), .ref (G.1 1), .ref (G.1 4), .int op, .int step] σ (raF rec op step σ) := by
  refine MV.of hG (by decide) (Nat.le_of_ble_eq_true rfl) (fun X hx hq => ?_)
  show J l G X 5 σ 0 [(0, .ref (G.1 74)), (1, .ref (G.1 1)), (2, .ref (G.1 4)), (3, .int op), (4, .int step)] []
  refine j_iload_n hx d_Work_readAgain_0 rfl 3 rfl ?_
  refine j_bipush (v := 6) hx d_Work_readAgain_1 (by decide) ?_
  refine j_icmp_lt (tgt := 12) hx d_Work_readAgain_3 (by decide) (fun zc3 => ?_) (fun zc3 => ?_)
  · skip
    refine j_aload_n hx d_Work_readAgain_12 rfl 0 rfl ?_
    refine j_get hx ck_Work 1 (by decide) t_199 (by decide) (sh_74 _ _) rfl d_Work_readAgain_13 ?_
    refine j_iload hx d_Work_readAgain_16 4 rfl ?_
    refine j_aload_n hx d_Work_readAgain_18 rfl 1 rfl ?_
    refine j_iconst (v := 0) hx d_Work_readAgain_19 (by decide) ?_
    refine j_bipush (v := 30) hx d_Work_readAgain_20 (by decide) ?_
    refine j_callVi hx (c_Tape_numberIn hG σ 0 30) mo_Tape_numberIn mv_Tape_numberIn t_853 (by omega) rfl (by decide) (sh_1 _ _) rfl rfl (Nat.le_of_ble_eq_true rfl) d_Work_readAgain_22 ?_
    refine j_callVv hx (c_Row_set hG ir_77 (nuS σ 0 30) step (nuV (nu1 σ))) mo_Row_set mv_Row_set t_851 (by omega) rfl (by decide) (sh_77 _ _) rfl rfl (Nat.le_of_ble_eq_true rfl) d_Work_readAgain_25 ?_
    obtain ⟨s9_1, eg_1⟩ : ∃ z : St, z = rn1 σ 77 150 step 0 30 := ⟨_, rfl⟩
    refine J.to (σ' := s9_1) (by rw [eg_1]; first | done | rfl) rfl ?_
    refine j_aload_n hx d_Work_readAgain_28 rfl 1 rfl ?_
    refine j_aload_n hx d_Work_readAgain_29 rfl 1 rfl ?_
    refine j_bipush (v := 91) hx d_Work_readAgain_30 (by decide) ?_
    refine j_callVi hx (c_Tape_take hG s9_1 91) mo_Tape_take mv_Tape_take t_859 (by omega) rfl (by decide) (sh_1 _ _) rfl rfl (Nat.le_of_ble_eq_true rfl) d_Work_readAgain_32 ?_
    refine j_callVv hx (c_Tape_require hG (tkS s9_1 91) (b2 (tkP s9_1 91))) mo_Tape_require mv_Tape_require t_860 (by omega) rfl (by decide) (sh_1 _ _) rfl rfl (Nat.le_of_ble_eq_true rfl) d_Work_readAgain_35 ?_
    obtain ⟨s9_2, eg_2⟩ : ∃ z : St, z = tkR s9_1 91 := ⟨_, rfl⟩
    refine J.to (σ' := s9_2) (by rw [eg_2]; first | done | rfl) rfl ?_
    refine j_aload_n hx d_Work_readAgain_38 rfl 0 rfl ?_
    refine j_aload_n hx d_Work_readAgain_39 rfl 1 rfl ?_
    refine j_aload_n hx d_Work_readAgain_40 rfl 2 rfl ?_
    refine j_iload_n hx d_Work_readAgain_41 rfl 3 rfl ?_
    refine j_iconst (v := 1) hx d_Work_readAgain_42 (by decide) ?_
    refine j_iadd hx d_Work_readAgain_43 ?_
    refine j_callVv hx (hrec zc3 s9_2) mo_Work_readSteps mv_Work_readSteps t_835 (by omega) rfl (by decide) (sh_74 _ _) rfl rfl (Nat.le_of_ble_eq_true rfl) d_Work_readAgain_44 ?_
    obtain ⟨s9_3, eg_3⟩ : ∃ z : St, z = rec s9_2 := ⟨_, rfl⟩
    refine J.to (σ' := s9_3) (by rw [eg_3]; first | done | rfl) rfl ?_
    refine j_aload_n hx d_Work_readAgain_47 rfl 1 rfl ?_
    refine j_aload_n hx d_Work_readAgain_48 rfl 1 rfl ?_
    refine j_bipush (v := 93) hx d_Work_readAgain_49 (by decide) ?_
    refine j_callVi hx (c_Tape_take hG s9_3 93) mo_Tape_take mv_Tape_take t_859 (by omega) rfl (by decide) (sh_1 _ _) rfl rfl (Nat.le_of_ble_eq_true rfl) d_Work_readAgain_51 ?_
    refine j_callVv hx (c_Tape_require hG (tkS s9_3 93) (b2 (tkP s9_3 93))) mo_Tape_require mv_Tape_require t_860 (by omega) rfl (by decide) (sh_1 _ _) rfl rfl (Nat.le_of_ble_eq_true rfl) d_Work_readAgain_54 ?_
    obtain ⟨s9_4, eg_4⟩ : ∃ z : St, z = tkR s9_3 93 := ⟨_, rfl⟩
    refine J.to (σ' := s9_4) (by rw [eg_4]; first | done | rfl) rfl ?_
    refine j_aload_n hx d_Work_readAgain_57 rfl 0 rfl ?_
    refine j_get hx ck_Work 2 (by decide) t_200 (by decide) (sh_74 _ _) rfl d_Work_readAgain_58 ?_
    refine j_iload hx d_Work_readAgain_61 4 rfl ?_
    refine j_aload_n hx d_Work_readAgain_63 rfl 0 rfl ?_
    refine j_get hx ck_Work 3 (by decide) t_201 (by decide) (sh_74 _ _) rfl d_Work_readAgain_64 ?_
    refine j_callVv hx (c_Row_set hG ir_79 s9_4 step (s9_4 74 3)) mo_Row_set mv_Row_set t_851 (by omega) rfl (by decide) (sh_79 _ _) rfl rfl (Nat.le_of_ble_eq_true rfl) d_Work_readAgain_67 ?_
    exact j_vret hx hq d_Work_readAgain_70 (by first | (first | exact (if_neg zc3).symm | (unfold raF; rw [if_pos zc3, eg_4, eg_3, eg_2, eg_1]; done)) | fail)
  · skip
    refine j_aload_n hx d_Work_readAgain_6 rfl 1 rfl ?_
    refine j_iconst (v := 3) hx d_Work_readAgain_7 (by decide) ?_
    refine j_callVv hx (c_Tape_blameItem hG σ 3) mo_Tape_blameItem mv_Tape_blameItem t_858 (by omega) rfl (by decide) (sh_1 _ _) rfl rfl (Nat.le_of_ble_eq_true rfl) d_Work_readAgain_8 ?_
    exact j_vret hx hq d_Work_readAgain_11 (by first | (first | exact (if_neg zc3).symm | (unfold raF; rw [if_pos zc3, eg_4, eg_3, eg_2, eg_1]; done)) | fail)

set_option maxRecDepth 20000 in
set_option maxHeartbeats 4000000 in
theorem c_Work_readStep {l : Launch} {G : Gz} (hG : zI G) (σ : St) (op : Int32) {kr : Nat} (rec : St → St) (hrec : op < 6 → ∀ σ : St, MV l G y_Work_readSteps prog_12_method_5_code 5 kr [.ref (G.1 74), .ref (G.1 1), .ref (G.1 4), .int (op + 1)] σ (rec σ)) : MV l G y_Work_readStep prog_12_method_6_code 6 (kr + 8) [.ref (G.1 74), .ref (G.1 1), .ref (G.1 4), .int op] σ (rtF rec op σ) := by
  refine MV.of hG (by decide) (Nat.le_of_ble_eq_true rfl) (fun X hx hq => ?_)
  show J l G X 6 σ 0 [(0, .ref (G.1 74)), (1, .ref (G.1 1)), (2, .ref (G.1 4)), (3, .int op)] []
  refine j_aload_n hx d_Work_readStep_0 rfl 0 rfl ?_
  refine j_get hx ck_Work 3 (by decide) t_201 (by decide) (sh_74 _ _) rfl d_Work_readStep_1 ?_
  refine j_istore hx [(4, .int (σ 74 3)), (0, .ref (G.1 74)), (1, .ref (G.1 1)), (2, .ref (G.1 4)), (3, .int op)] d_Work_readStep_4 (by decide) rfl ?_
  refine j_aload_n hx d_Work_readStep_6 rfl 2 rfl ?_
  refine j_ldcs3 hx d_Work_readStep_7 ?_
  refine j_callVi hx (c_Tape_wordOf hG σ 3 (by decide)) mo_Tape_wordOf mv_Tape_wordOf t_850 (by omega) rfl (by decide) (sh_1 _ _) rfl rfl (Nat.le_of_ble_eq_true rfl) d_Work_readStep_9 ?_
  refine j_istore hx [(5, .int (woI σ 3)), (4, .int (σ 74 3)), (0, .ref (G.1 74)), (1, .ref (G.1 1)), (2, .ref (G.1 4)), (3, .int op)] d_Work_readStep_12 (by decide) rfl ?_
  obtain ⟨s9_1, eg_1⟩ : ∃ z : St, z = woS σ 3 := ⟨_, rfl⟩
  refine J.to (σ' := s9_1) (by rw [eg_1]; first | done | rfl) rfl ?_
  refine j_aload_n hx d_Work_readStep_14 rfl 2 rfl ?_
  refine j_get hx ck_Work 0 (by decide) t_198 (by decide) (sh_74 _ _) rfl d_Work_readStep_15 ?_
  refine j_iload hx d_Work_readStep_18 1 rfl ?_
  refine j_iload hx d_Work_readStep_20 0 rfl ?_
  refine j_callVv hx (c_Row_set hG ir_75 s9_1 (σ 74 3) (woI σ 3)) mo_Row_set mv_Row_set t_851 (by omega) rfl (by decide) (sh_75 _ _) rfl rfl (Nat.le_of_ble_eq_true rfl) d_Work_readStep_22 ?_
  obtain ⟨s9_2, eg_2⟩ : ∃ z : St, z = rs s9_1 75 150 (σ 74 3) (woI σ 3) := ⟨_, rfl⟩
  refine J.to (σ' := s9_2) (by rw [eg_2]; first | done | rfl) rfl ?_
  refine j_aload_n hx d_Work_readStep_25 rfl 2 rfl ?_
  refine j_dup hx d_Work_readStep_26 rfl ?_
  refine j_get hx ck_Work 3 (by decide) t_201 (by decide) (sh_74 _ _) rfl d_Work_readStep_27 ?_
  refine j_iconst (v := 1) hx d_Work_readStep_30 (by decide) ?_
  refine j_iadd hx d_Work_readStep_31 ?_
  refine j_put hx ck_Work 3 (by decide) t_201 (by decide) (sh_74 _ _) rfl (Nat.le_of_ble_eq_true rfl) (sh_74 _ _) d_Work_readStep_32 ?_
  obtain ⟨s9_3, eg_3⟩ : ∃ z : St, z = up s9_2 74 3 (s9_2 74 3 + 1) := ⟨_, rfl⟩
  refine J.to (σ' := s9_3) (by rw [eg_3]; first | done | rfl) rfl ?_
  refine j_iload hx d_Work_readStep_35 0 rfl ?_
  refine J.sw (x := woI σ 3) 0 (fun zc37_0 => ?_) (fun zc37_0 => ?_)
  · skip
    refine j_tableIn (x := woI σ 3) (tgt := 80) (off := 43) hx d_Work_readStep_37 (by rw [zc37_0]; decide) (by rw [zc37_0]; decide) (by rw [zc37_0]; decide) (by decide) ?_
    refine j_aload_n hx d_Work_readStep_80 rfl 2 rfl ?_
    refine j_get hx ck_Work 1 (by decide) t_199 (by decide) (sh_74 _ _) rfl d_Work_readStep_81 ?_
    refine j_iload hx d_Work_readStep_84 1 rfl ?_
    refine j_aload_n hx d_Work_readStep_86 rfl 3 rfl ?_
    refine j_iconst (v := 0) hx d_Work_readStep_87 (by decide) ?_
    refine j_aload_n hx d_Work_readStep_88 rfl 4 rfl ?_
    refine j_get hx ck_Coast 0 (by decide) t_87 (by decide) (sh_4 _ _) rfl d_Work_readStep_89 ?_
    refine j_iconst (v := 1) hx d_Work_readStep_92 (by decide) ?_
    refine j_callVi hx (c_Row_getA hG ir_5 6 rfl s9_3 1) mo_Row_get mv_Row_get t_852 (by omega) rfl (by decide) (sh_5 _ _) rfl rfl (Nat.le_of_ble_eq_true rfl) d_Work_readStep_93 ?_
    refine j_iconst (v := 1) hx d_Work_readStep_96 (by decide) ?_
    refine j_isub hx d_Work_readStep_97 ?_
    refine j_callVi hx (c_Tape_numberIn hG s9_3 0 ((rg (s9_3 (5 + 1)) 6 1) - 1)) mo_Tape_numberIn mv_Tape_numberIn t_853 (by omega) rfl (by decide) (sh_1 _ _) rfl rfl (Nat.le_of_ble_eq_true rfl) d_Work_readStep_98 ?_
    refine j_callVv hx (c_Row_set hG ir_77 (nuS s9_3 0 ((rg (s9_3 (5 + 1)) 6 1) - 1)) (σ 74 3) (nuV (nu1 s9_3))) mo_Row_set mv_Row_set t_851 (by omega) rfl (by decide) (sh_77 _ _) rfl rfl (Nat.le_of_ble_eq_true rfl) d_Work_readStep_101 ?_
    refine j_goto (tgt := 197) hx d_Work_readStep_104 (by decide) ?_
    exact j_vret hx hq d_Work_readStep_197 (by first | (first | (unfold rtF rtK; rw [if_pos zc37_0, eg_3, eg_2, eg_1]; rfl) | (unfold rtF rtK; rw [if_neg zc37_0, if_pos zc37_1, eg_3, eg_2, eg_1]; rfl) | (unfold rtF rtK; rw [if_neg zc37_0, if_neg zc37_1, if_pos zc37_2, eg_4, eg_3, eg_2, eg_1]; rfl) | (unfold rtF rtK; rw [if_neg zc37_0, if_neg zc37_1, if_neg zc37_2, if_pos zc37_3, eg_3, eg_2, eg_1]; rfl) | (unfold rtF rtK; rw [if_neg zc37_0, if_neg zc37_1, if_neg zc37_2, if_neg zc37_3, if_pos zc37_4, eg_3, eg_2, eg_1]; rfl) | (unfold rtF rtK; rw [if_neg zc37_0, if_neg zc37_1, if_neg zc37_2, if_neg zc37_3, if_neg zc37_4, if_pos zc37_5, eg_3, eg_2, eg_1]; rfl) | (unfold rtF rtK; rw [if_neg zc37_0, if_neg zc37_1, if_neg zc37_2, if_neg zc37_3, if_neg zc37_4, if_neg zc37_5, if_pos zc37_6, eg_3, eg_2, eg_1]; rfl) | (unfold rtF rtK; rw [if_neg zc37_0, if_neg zc37_1, if_neg zc37_2, if_neg zc37_3, if_neg zc37_4, if_neg zc37_5, if_neg zc37_6, eg_3, eg_2, eg_1]; rfl)) | fail)
  refine J.sw (x := woI σ 3) 1 (fun zc37_1 => ?_) (fun zc37_1 => ?_)
  · skip
    refine j_tableIn (x := woI σ 3) (tgt := 80) (off := 43) hx d_Work_readStep_37 (by rw [zc37_1]; decide) (by rw [zc37_1]; decide) (by rw [zc37_1]; decide) (by decide) ?_
    refine j_aload_n hx d_Work_readStep_80 rfl 2 rfl ?_
    refine j_get hx ck_Work 1 (by decide) t_199 (by decide) (sh_74 _ _) rfl d_Work_readStep_81 ?_
    refine j_iload hx d_Work_readStep_84 1 rfl ?_
    refine j_aload_n hx d_Work_readStep_86 rfl 3 rfl ?_
    refine j_iconst (v := 0) hx d_Work_readStep_87 (by decide) ?_
    refine j_aload_n hx d_Work_readStep_88 rfl 4 rfl ?_
    refine j_get hx ck_Coast 0 (by decide) t_87 (by decide) (sh_4 _ _) rfl d_Work_readStep_89 ?_
    refine j_iconst (v := 1) hx d_Work_readStep_92 (by decide) ?_
    refine j_callVi hx (c_Row_getA hG ir_5 6 rfl s9_3 1) mo_Row_get mv_Row_get t_852 (by omega) rfl (by decide) (sh_5 _ _) rfl rfl (Nat.le_of_ble_eq_true rfl) d_Work_readStep_93 ?_
    refine j_iconst (v := 1) hx d_Work_readStep_96 (by decide) ?_
    refine j_isub hx d_Work_readStep_97 ?_
    refine j_callVi hx (c_Tape_numberIn hG s9_3 0 ((rg (s9_3 (5 + 1)) 6 1) - 1)) mo_Tape_numberIn mv_Tape_numberIn t_853 (by omega) rfl (by decide) (sh_1 _ _) rfl rfl (Nat.le_of_ble_eq_true rfl) d_Work_readStep_98 ?_
    refine j_callVv hx (c_Row_set hG ir_77 (nuS s9_3 0 ((rg (s9_3 (5 + 1)) 6 1) - 1)) (σ 74 3) (nuV (nu1 s9_3))) mo_Row_set mv_Row_set t_851 (by omega) rfl (by decide) (sh_77 _ _) rfl rfl (Nat.le_of_ble_eq_true rfl) d_Work_readStep_101 ?_
    refine j_goto (tgt := 197) hx d_Work_readStep_104 (by decide) ?_
    exact j_vret hx hq d_Work_readStep_197 (by first | (first | (unfold rtF rtK; rw [if_pos zc37_0, eg_3, eg_2, eg_1]; rfl) | (unfold rtF rtK; rw [if_neg zc37_0, if_pos zc37_1, eg_3, eg_2, eg_1]; rfl) | (unfold rtF rtK; rw [if_neg zc37_0, if_neg zc37_1, if_pos zc37_2, eg_4, eg_3, eg_2, eg_1]; rfl) | (unfold rtF rtK; rw [if_neg zc37_0, if_neg zc37_1, if_neg zc37_2, if_pos zc37_3, eg_3, eg_2, eg_1]; rfl) | (unfold rtF rtK; rw [if_neg zc37_0, if_neg zc37_1, if_neg zc37_2, if_neg zc37_3, if_pos zc37_4, eg_3, eg_2, eg_1]; rfl) | (unfold rtF rtK; rw [if_neg zc37_0, if_neg zc37_1, if_neg zc37_2, if_neg zc37_3, if_neg zc37_4, if_pos zc37_5, eg_3, eg_2, eg_1]; rfl) | (unfold rtF rtK; rw [if_neg zc37_0, if_neg zc37_1, if_neg zc37_2, if_neg zc37_3, if_neg zc37_4, if_neg zc37_5, if_pos zc37_6, eg_3, eg_2, eg_1]; rfl) | (unfold rtF rtK; rw [if_neg zc37_0, if_neg zc37_1, if_neg zc37_2, if_neg zc37_3, if_neg zc37_4, if_neg zc37_5, if_neg zc37_6, eg_3, eg_2, eg_1]; rfl)) | fail)
  refine J.sw (x := woI σ 3) 2 (fun zc37_2 => ?_) (fun zc37_2 => ?_)
  · skip
    refine j_tableIn (x := woI σ 3) (tgt := 107) (off := 70) hx d_Work_readStep_37 (by rw [zc37_2]; decide) (by rw [zc37_2]; decide) (by rw [zc37_2]; decide) (by decide) ?_
    refine j_aload_n hx d_Work_readStep_107 rfl 2 rfl ?_
    refine j_get hx ck_Work 1 (by decide) t_199 (by decide) (sh_74 _ _) rfl d_Work_readStep_108 ?_
    refine j_iload hx d_Work_readStep_111 1 rfl ?_
    refine j_aload_n hx d_Work_readStep_113 rfl 3 rfl ?_
    refine j_iconst (v := 0) hx d_Work_readStep_114 (by decide) ?_
    refine j_aload_n hx d_Work_readStep_115 rfl 4 rfl ?_
    refine j_get hx ck_Coast 0 (by decide) t_87 (by decide) (sh_4 _ _) rfl d_Work_readStep_116 ?_
    refine j_iconst (v := 2) hx d_Work_readStep_119 (by decide) ?_
    refine j_callVi hx (c_Row_getA hG ir_5 6 rfl s9_3 2) mo_Row_get mv_Row_get t_852 (by omega) rfl (by decide) (sh_5 _ _) rfl rfl (Nat.le_of_ble_eq_true rfl) d_Work_readStep_120 ?_
    refine j_iconst (v := 1) hx d_Work_readStep_123 (by decide) ?_
    refine j_isub hx d_Work_readStep_124 ?_
    refine j_callVi hx (c_Tape_numberIn hG s9_3 0 ((rg (s9_3 (5 + 1)) 6 2) - 1)) mo_Tape_numberIn mv_Tape_numberIn t_853 (by omega) rfl (by decide) (sh_1 _ _) rfl rfl (Nat.le_of_ble_eq_true rfl) d_Work_readStep_125 ?_
    refine j_callVv hx (c_Row_set hG ir_77 (nuS s9_3 0 ((rg (s9_3 (5 + 1)) 6 2) - 1)) (σ 74 3) (nuV (nu1 s9_3))) mo_Row_set mv_Row_set t_851 (by omega) rfl (by decide) (sh_77 _ _) rfl rfl (Nat.le_of_ble_eq_true rfl) d_Work_readStep_128 ?_
    obtain ⟨s9_4, eg_4⟩ : ∃ z : St, z = rn1 s9_3 77 150 (σ 74 3) 0 (cM s9_3 2 - 1) := ⟨_, rfl⟩
    refine J.to (σ' := s9_4) (by rw [eg_4]; first | done | rfl) rfl ?_
    refine j_aload_n hx d_Work_readStep_131 rfl 2 rfl ?_
    refine j_get hx ck_Work 2 (by decide) t_200 (by decide) (sh_74 _ _) rfl d_Work_readStep_132 ?_
    refine j_iload hx d_Work_readStep_135 1 rfl ?_
    refine j_aload_n hx d_Work_readStep_137 rfl 3 rfl ?_
    refine j_iconst (v := 0) hx d_Work_readStep_138 (by decide) ?_
    refine j_aload_n hx d_Work_readStep_139 rfl 4 rfl ?_
    refine j_get hx ck_Coast 0 (by decide) t_87 (by decide) (sh_4 _ _) rfl d_Work_readStep_140 ?_
    refine j_iconst (v := 0) hx d_Work_readStep_143 (by decide) ?_
    refine j_callVi hx (c_Row_getA hG ir_5 6 rfl s9_4 0) mo_Row_get mv_Row_get t_852 (by omega) rfl (by decide) (sh_5 _ _) rfl rfl (Nat.le_of_ble_eq_true rfl) d_Work_readStep_144 ?_
    refine j_iconst (v := 1) hx d_Work_readStep_147 (by decide) ?_
    refine j_isub hx d_Work_readStep_148 ?_
    refine j_callVi hx (c_Tape_numberIn hG s9_4 0 ((rg (s9_4 (5 + 1)) 6 0) - 1)) mo_Tape_numberIn mv_Tape_numberIn t_853 (by omega) rfl (by decide) (sh_1 _ _) rfl rfl (Nat.le_of_ble_eq_true rfl) d_Work_readStep_149 ?_
    refine j_callVv hx (c_Row_set hG ir_79 (nuS s9_4 0 ((rg (s9_4 (5 + 1)) 6 0) - 1)) (σ 74 3) (nuV (nu1 s9_4))) mo_Row_set mv_Row_set t_851 (by omega) rfl (by decide) (sh_79 _ _) rfl rfl (Nat.le_of_ble_eq_true rfl) d_Work_readStep_152 ?_
    refine j_goto (tgt := 197) hx d_Work_readStep_155 (by decide) ?_
    exact j_vret hx hq d_Work_readStep_197 (by first | (first | (unfold rtF rtK; rw [if_pos zc37_0, eg_3, eg_2, eg_1]; rfl) | (unfold rtF rtK; rw [if_neg zc37_0, if_pos zc37_1, eg_3, eg_2, eg_1]; rfl) | (unfold rtF rtK; rw [if_neg zc37_0, if_neg zc37_1, if_pos zc37_2, eg_4, eg_3, eg_2, eg_1]; rfl) | (unfold rtF rtK; rw [if_neg zc37_0, if_neg zc37_1, if_neg zc37_2, if_pos zc37_3, eg_3, eg_2, eg_1]; rfl) | (unfold rtF rtK; rw [if_neg zc37_0, if_neg zc37_1, if_neg zc37_2, if_neg zc37_3, if_pos zc37_4, eg_3, eg_2, eg_1]; rfl) | (unfold rtF rtK; rw [if_neg zc37_0, if_neg zc37_1, if_neg zc37_2, if_neg zc37_3, if_neg zc37_4, if_pos zc37_5, eg_3, eg_2, eg_1]; rfl) | (unfold rtF rtK; rw [if_neg zc37_0, if_neg zc37_1, if_neg zc37_2, if_neg zc37_3, if_neg zc37_4, if_neg zc37_5, if_pos zc37_6, eg_3, eg_2, eg_1]; rfl) | (unfold rtF rtK; rw [if_neg zc37_0, if_neg zc37_1, if_neg zc37_2, if_neg zc37_3, if_neg zc37_4, if_neg zc37_5, if_neg zc37_6, eg_3, eg_2, eg_1]; rfl)) | fail)
  refine J.sw (x := woI σ 3) 3 (fun zc37_3 => ?_) (fun zc37_3 => ?_)
  · skip
    refine j_tableIn (x := woI σ 3) (tgt := 158) (off := 121) hx d_Work_readStep_37 (by rw [zc37_3]; decide) (by rw [zc37_3]; decide) (by rw [zc37_3]; decide) (by decide) ?_
    refine j_aload_n hx d_Work_readStep_158 rfl 2 rfl ?_
    refine j_get hx ck_Work 1 (by decide) t_199 (by decide) (sh_74 _ _) rfl d_Work_readStep_159 ?_
    refine j_iload hx d_Work_readStep_162 1 rfl ?_
    refine j_aload_n hx d_Work_readStep_164 rfl 3 rfl ?_
    refine j_iconst (v := 0) hx d_Work_readStep_165 (by decide) ?_
    refine j_aload_n hx d_Work_readStep_166 rfl 4 rfl ?_
    refine j_get hx ck_Coast 0 (by decide) t_87 (by decide) (sh_4 _ _) rfl d_Work_readStep_167 ?_
    refine j_iconst (v := 3) hx d_Work_readStep_170 (by decide) ?_
    refine j_callVi hx (c_Row_getA hG ir_5 6 rfl s9_3 3) mo_Row_get mv_Row_get t_852 (by omega) rfl (by decide) (sh_5 _ _) rfl rfl (Nat.le_of_ble_eq_true rfl) d_Work_readStep_171 ?_
    refine j_iconst (v := 1) hx d_Work_readStep_174 (by decide) ?_
    refine j_isub hx d_Work_readStep_175 ?_
    refine j_callVi hx (c_Tape_numberIn hG s9_3 0 ((rg (s9_3 (5 + 1)) 6 3) - 1)) mo_Tape_numberIn mv_Tape_numberIn t_853 (by omega) rfl (by decide) (sh_1 _ _) rfl rfl (Nat.le_of_ble_eq_true rfl) d_Work_readStep_176 ?_
    refine j_callVv hx (c_Row_set hG ir_77 (nuS s9_3 0 ((rg (s9_3 (5 + 1)) 6 3) - 1)) (σ 74 3) (nuV (nu1 s9_3))) mo_Row_set mv_Row_set t_851 (by omega) rfl (by decide) (sh_77 _ _) rfl rfl (Nat.le_of_ble_eq_true rfl) d_Work_readStep_179 ?_
    refine j_goto (tgt := 197) hx d_Work_readStep_182 (by decide) ?_
    exact j_vret hx hq d_Work_readStep_197 (by first | (first | (unfold rtF rtK; rw [if_pos zc37_0, eg_3, eg_2, eg_1]; rfl) | (unfold rtF rtK; rw [if_neg zc37_0, if_pos zc37_1, eg_3, eg_2, eg_1]; rfl) | (unfold rtF rtK; rw [if_neg zc37_0, if_neg zc37_1, if_pos zc37_2, eg_4, eg_3, eg_2, eg_1]; rfl) | (unfold rtF rtK; rw [if_neg zc37_0, if_neg zc37_1, if_neg zc37_2, if_pos zc37_3, eg_3, eg_2, eg_1]; rfl) | (unfold rtF rtK; rw [if_neg zc37_0, if_neg zc37_1, if_neg zc37_2, if_neg zc37_3, if_pos zc37_4, eg_3, eg_2, eg_1]; rfl) | (unfold rtF rtK; rw [if_neg zc37_0, if_neg zc37_1, if_neg zc37_2, if_neg zc37_3, if_neg zc37_4, if_pos zc37_5, eg_3, eg_2, eg_1]; rfl) | (unfold rtF rtK; rw [if_neg zc37_0, if_neg zc37_1, if_neg zc37_2, if_neg zc37_3, if_neg zc37_4, if_neg zc37_5, if_pos zc37_6, eg_3, eg_2, eg_1]; rfl) | (unfold rtF rtK; rw [if_neg zc37_0, if_neg zc37_1, if_neg zc37_2, if_neg zc37_3, if_neg zc37_4, if_neg zc37_5, if_neg zc37_6, eg_3, eg_2, eg_1]; rfl)) | fail)
  refine J.sw (x := woI σ 3) 4 (fun zc37_4 => ?_) (fun zc37_4 => ?_)
  · skip
    refine j_tableIn (x := woI σ 3) (tgt := 197) (off := 160) hx d_Work_readStep_37 (by rw [zc37_4]; decide) (by rw [zc37_4]; decide) (by rw [zc37_4]; decide) (by decide) ?_
    exact j_vret hx hq d_Work_readStep_197 (by first | (first | (unfold rtF rtK; rw [if_pos zc37_0, eg_3, eg_2, eg_1]; rfl) | (unfold rtF rtK; rw [if_neg zc37_0, if_pos zc37_1, eg_3, eg_2, eg_1]; rfl) | (unfold rtF rtK; rw [if_neg zc37_0, if_neg zc37_1, if_pos zc37_2, eg_4, eg_3, eg_2, eg_1]; rfl) | (unfold rtF rtK; rw [if_neg zc37_0, if_neg zc37_1, if_neg zc37_2, if_pos zc37_3, eg_3, eg_2, eg_1]; rfl) | (unfold rtF rtK; rw [if_neg zc37_0, if_neg zc37_1, if_neg zc37_2, if_neg zc37_3, if_pos zc37_4, eg_3, eg_2, eg_1]; rfl) | (unfold rtF rtK; rw [if_neg zc37_0, if_neg zc37_1, if_neg zc37_2, if_neg zc37_3, if_neg zc37_4, if_pos zc37_5, eg_3, eg_2, eg_1]; rfl) | (unfold rtF rtK; rw [if_neg zc37_0, if_neg zc37_1, if_neg zc37_2, if_neg zc37_3, if_neg zc37_4, if_neg zc37_5, if_pos zc37_6, eg_3, eg_2, eg_1]; rfl) | (unfold rtF rtK; rw [if_neg zc37_0, if_neg zc37_1, if_neg zc37_2, if_neg zc37_3, if_neg zc37_4, if_neg zc37_5, if_neg zc37_6, eg_3, eg_2, eg_1]; rfl)) | fail)
  refine J.sw (x := woI σ 3) 5 (fun zc37_5 => ?_) (fun zc37_5 => ?_)
  · skip
    refine j_tableIn (x := woI σ 3) (tgt := 197) (off := 160) hx d_Work_readStep_37 (by rw [zc37_5]; decide) (by rw [zc37_5]; decide) (by rw [zc37_5]; decide) (by decide) ?_
    exact j_vret hx hq d_Work_readStep_197 (by first | (first | (unfold rtF rtK; rw [if_pos zc37_0, eg_3, eg_2, eg_1]; rfl) | (unfold rtF rtK; rw [if_neg zc37_0, if_pos zc37_1, eg_3, eg_2, eg_1]; rfl) | (unfold rtF rtK; rw [if_neg zc37_0, if_neg zc37_1, if_pos zc37_2, eg_4, eg_3, eg_2, eg_1]; rfl) | (unfold rtF rtK; rw [if_neg zc37_0, if_neg zc37_1, if_neg zc37_2, if_pos zc37_3, eg_3, eg_2, eg_1]; rfl) | (unfold rtF rtK; rw [if_neg zc37_0, if_neg zc37_1, if_neg zc37_2, if_neg zc37_3, if_pos zc37_4, eg_3, eg_2, eg_1]; rfl) | (unfold rtF rtK; rw [if_neg zc37_0, if_neg zc37_1, if_neg zc37_2, if_neg zc37_3, if_neg zc37_4, if_pos zc37_5, eg_3, eg_2, eg_1]; rfl) | (unfold rtF rtK; rw [if_neg zc37_0, if_neg zc37_1, if_neg zc37_2, if_neg zc37_3, if_neg zc37_4, if_neg zc37_5, if_pos zc37_6, eg_3, eg_2, eg_1]; rfl) | (unfold rtF rtK; rw [if_neg zc37_0, if_neg zc37_1, if_neg zc37_2, if_neg zc37_3, if_neg zc37_4, if_neg zc37_5, if_neg zc37_6, eg_3, eg_2, eg_1]; rfl)) | fail)
  refine J.sw (x := woI σ 3) 6 (fun zc37_6 => ?_) (fun zc37_6 => ?_)
  · skip
    refine j_tableIn (x := woI σ 3) (tgt := 185) (off := 148) hx d_Work_readStep_37 (by rw [zc37_6]; decide) (by rw [zc37_6]; decide) (by rw [zc37_6]; decide) (by decide) ?_
    refine j_aload_n hx d_Work_readStep_185 rfl 2 rfl ?_
    refine j_aload_n hx d_Work_readStep_186 rfl 3 rfl ?_
    refine j_aload_n hx d_Work_readStep_187 rfl 4 rfl ?_
    refine j_iload_n hx d_Work_readStep_188 rfl 5 rfl ?_
    refine j_iload hx d_Work_readStep_189 1 rfl ?_
    refine j_callVv hx (c_Work_readAgain hG s9_3 op (σ 74 3) rec hrec) mo_Work_readAgain mv_Work_readAgain t_854 (by omega) rfl (by decide) (sh_74 _ _) rfl rfl (Nat.le_of_ble_eq_true rfl) d_Work_readStep_191 ?_
    refine j_goto (tgt := 197) hx d_Work_readStep_194 (by decide) ?_
    exact j_vret hx hq d_Work_readStep_197 (by first | (first | (unfold rtF rtK; rw [if_pos zc37_0, eg_3, eg_2, eg_1]; rfl) | (unfold rtF rtK; rw [if_neg zc37_0, if_pos zc37_1, eg_3, eg_2, eg_1]; rfl) | (unfold rtF rtK; rw [if_neg zc37_0, if_neg zc37_1, if_pos zc37_2, eg_4, eg_3, eg_2, eg_1]; rfl) | (unfold rtF rtK; rw [if_neg zc37_0, if_neg zc37_1, if_neg zc37_2, if_pos zc37_3, eg_3, eg_2, eg_1]; rfl) | (unfold rtF rtK; rw [if_neg zc37_0, if_neg zc37_1, if_neg zc37_2, if_neg zc37_3, if_pos zc37_4, eg_3, eg_2, eg_1]; rfl) | (unfold rtF rtK; rw [if_neg zc37_0, if_neg zc37_1, if_neg zc37_2, if_neg zc37_3, if_neg zc37_4, if_pos zc37_5, eg_3, eg_2, eg_1]; rfl) | (unfold rtF rtK; rw [if_neg zc37_0, if_neg zc37_1, if_neg zc37_2, if_neg zc37_3, if_neg zc37_4, if_neg zc37_5, if_pos zc37_6, eg_3, eg_2, eg_1]; rfl) | (unfold rtF rtK; rw [if_neg zc37_0, if_neg zc37_1, if_neg zc37_2, if_neg zc37_3, if_neg zc37_4, if_neg zc37_5, if_neg zc37_6, eg_3, eg_2, eg_1]; rfl)) | fail)
  refine j_tableOut (x := woI σ 3) (tgt := 197) hx d_Work_readStep_37 (by have h0 := sw_ne zc37_0; have h1 := sw_ne zc37_1; have h2 := sw_ne zc37_2; have h3 := sw_ne zc37_3; have h4 := sw_ne zc37_4; have h5 := sw_ne zc37_5; have h6 := sw_ne zc37_6; have q0 : Int32.toInt 0 = 0 := rfl; have q1 : Int32.toInt 1 = 1 := rfl; have q2 : Int32.toInt 2 = 2 := rfl; have q3 : Int32.toInt 3 = 3 := rfl; have q4 : Int32.toInt 4 = 4 := rfl; have q5 : Int32.toInt 5 = 5 := rfl; have q6 : Int32.toInt 6 = 6 := rfl; omega) (by decide) ?_
  exact j_vret hx hq d_Work_readStep_197 (by first | (first | (unfold rtF rtK; rw [if_pos zc37_0, eg_3, eg_2, eg_1]; rfl) | (unfold rtF rtK; rw [if_neg zc37_0, if_pos zc37_1, eg_3, eg_2, eg_1]; rfl) | (unfold rtF rtK; rw [if_neg zc37_0, if_neg zc37_1, if_pos zc37_2, eg_4, eg_3, eg_2, eg_1]; rfl) | (unfold rtF rtK; rw [if_neg zc37_0, if_neg zc37_1, if_neg zc37_2, if_pos zc37_3, eg_3, eg_2, eg_1]; rfl) | (unfold rtF rtK; rw [if_neg zc37_0, if_neg zc37_1, if_neg zc37_2, if_neg zc37_3, if_pos zc37_4, eg_3, eg_2, eg_1]; rfl) | (unfold rtF rtK; rw [if_neg zc37_0, if_neg zc37_1, if_neg zc37_2, if_neg zc37_3, if_neg zc37_4, if_pos zc37_5, eg_3, eg_2, eg_1]; rfl) | (unfold rtF rtK; rw [if_neg zc37_0, if_neg zc37_1, if_neg zc37_2, if_neg zc37_3, if_neg zc37_4, if_neg zc37_5, if_pos zc37_6, eg_3, eg_2, eg_1]; rfl) | (unfold rtF rtK; rw [if_neg zc37_0, if_neg zc37_1, if_neg zc37_2, if_neg zc37_3, if_neg zc37_4, if_neg zc37_5, if_neg zc37_6, eg_3, eg_2, eg_1]; rfl)) | fail)

set_option maxRecDepth 20000 in
set_option maxHeartbeats 4000000 in
theorem c_Work_readSteps {l : Launch} {G : Gz} (hG : zI G) (σ : St) (op : Int32) {kr : Nat} (rec : St → St) (hrec : op < 6 → ∀ σ : St, MV l G y_Work_readSteps prog_12_method_5_code 5 kr [.ref (G.1 74), .ref (G.1 1), .ref (G.1 4), .int (op + 1)] σ (rec σ)) : MV l G y_Work_readSteps prog_12_method_5_code 5 (kr + 9) [.ref (G.1 74), .ref (G.1 1), .ref (G.1 4), .int op] σ (wsF rec op σ) := by
  refine MV.of hG (by decide) (Nat.le_of_ble_eq_true rfl) (fun X hx hq => ?_)
  show J l G X 5 σ 0 [(0, .ref (G.1 74)), (1, .ref (G.1 1)), (2, .ref (G.1 4)), (3, .int op)] []
  refine j_iconst (v := 0) hx d_Work_readSteps_0 (by decide) ?_
  refine j_istore hx [(4, .int 0), (0, .ref (G.1 74)), (1, .ref (G.1 1)), (2, .ref (G.1 4)), (3, .int op)] d_Work_readSteps_1 (by decide) rfl ?_
  have hl3 : ∀ (N9 : Nat) (i : Nat) (s : St), (i ≤ 150) → (stR (rtF rec op) (150 - i) s = stR (rtF rec op) 150 σ) → 150 - i = N9 → J l G X 5 s 3 [(0, .ref (G.1 74)), (1, .ref (G.1 1)), (2, .ref (G.1 4)), (3, .int op), (4, .int (nI i))] [] := by
    intro N9
    induction N9 using Nat.strongRecOn with
    | _ N9 ih3 =>
      intro i s hi_i hr hm3
      refine j_iload hx d_Work_readSteps_3 4 rfl ?_
      refine j_sipush (v := 150) hx d_Work_readSteps_5 (by decide) ?_
      refine j_icmp_ge (tgt := 58) hx d_Work_readSteps_8 (by decide) (fun zc8 => ?_) (fun zc8 => ?_)
      · skip
        obtain rfl := nt_end (n := 150) hi_i (by decide) zc8
        exact j_vret hx hq d_Work_readSteps_58 (by first | (first | exact (stR_end (N := 150)).symm.trans hr | exact (stR_stop (Or.inl zc15)).symm.trans hr | exact (stR_stop (Or.inr (Or.inl zc22))).symm.trans hr | exact (stR_stop (Or.inr (Or.inr zc31))).symm.trans hr) | fail)
      · skip
        have hlt3 := nt_go (n := 150) hi_i (by decide) zc8
        refine j_aload_n hx d_Work_readSteps_11 rfl 1 rfl ?_
        refine j_callVi hx (c_Tape_fine hG s) mo_Tape_fine mv_Tape_fine t_839 (by omega) rfl (by decide) (sh_1 _ _) rfl rfl (Nat.le_of_ble_eq_true rfl) d_Work_readSteps_12 ?_
        refine j_if_eq (tgt := 58) hx d_Work_readSteps_15 (by decide) (fun zc15 => ?_) (fun zc15 => ?_)
        · skip
          exact j_vret hx hq d_Work_readSteps_58 (by first | (first | exact (stR_end (N := 150)).symm.trans hr | exact (stR_stop (Or.inl zc15)).symm.trans hr | exact (stR_stop (Or.inr (Or.inl zc22))).symm.trans hr | exact (stR_stop (Or.inr (Or.inr zc31))).symm.trans hr) | fail)
        · skip
          refine j_aload_n hx d_Work_readSteps_18 rfl 1 rfl ?_
          refine j_callVi hx (c_Tape_ended hG s) mo_Tape_ended mv_Tape_ended t_840 (by omega) rfl (by decide) (sh_1 _ _) rfl rfl (Nat.le_of_ble_eq_true rfl) d_Work_readSteps_19 ?_
          refine j_if_ne (tgt := 58) hx d_Work_readSteps_22 (by decide) (fun zc22 => ?_) (fun zc22 => ?_)
          · skip
            exact j_vret hx hq d_Work_readSteps_58 (by first | (first | exact (stR_end (N := 150)).symm.trans hr | exact (stR_stop (Or.inl zc15)).symm.trans hr | exact (stR_stop (Or.inr (Or.inl zc22))).symm.trans hr | exact (stR_stop (Or.inr (Or.inr zc31))).symm.trans hr) | fail)
          · skip
            refine j_aload_n hx d_Work_readSteps_25 rfl 1 rfl ?_
            refine j_bipush (v := 93) hx d_Work_readSteps_26 (by decide) ?_
            refine j_callVi hx (c_Tape_nextIs hG s 93) mo_Tape_nextIs mv_Tape_nextIs t_841 (by omega) rfl (by decide) (sh_1 _ _) rfl rfl (Nat.le_of_ble_eq_true rfl) d_Work_readSteps_28 ?_
            refine j_if_eq (tgt := 35) hx d_Work_readSteps_31 (by decide) (fun zc31 => ?_) (fun zc31 => ?_)
            · skip
              refine j_aload_n hx d_Work_readSteps_35 rfl 0 rfl ?_
              refine j_aload_n hx d_Work_readSteps_36 rfl 1 rfl ?_
              refine j_aload_n hx d_Work_readSteps_37 rfl 2 rfl ?_
              refine j_iload_n hx d_Work_readSteps_38 rfl 3 rfl ?_
              refine j_callVv hx (c_Work_readStep hG s op rec hrec) mo_Work_readStep mv_Work_readStep t_845 (by omega) rfl (by decide) (sh_74 _ _) rfl rfl (Nat.le_of_ble_eq_true rfl) d_Work_readSteps_39 ?_
              refine j_aload_n hx d_Work_readSteps_42 rfl 1 rfl ?_
              refine j_aload_n hx d_Work_readSteps_43 rfl 1 rfl ?_
              refine j_bipush (v := 59) hx d_Work_readSteps_44 (by decide) ?_
              refine j_callVi hx (c_Tape_take hG (rtF rec op s) 59) mo_Tape_take mv_Tape_take t_859 (by omega) rfl (by decide) (sh_1 _ _) rfl rfl (Nat.le_of_ble_eq_true rfl) d_Work_readSteps_46 ?_
              refine j_callVv hx (c_Tape_require hG (tkS (rtF rec op s) 59) (b2 (tkP (rtF rec op s) 59))) mo_Tape_require mv_Tape_require t_860 (by omega) rfl (by decide) (sh_1 _ _) rfl rfl (Nat.le_of_ble_eq_true rfl) d_Work_readSteps_49 ?_
              refine j_iinc hx [(4, .int ((nI i) + 1)), (0, .ref (G.1 74)), (1, .ref (G.1 1)), (2, .ref (G.1 4)), (3, .int op)] d_Work_readSteps_52 4 rfl rfl (by decide) rfl ?_
              refine j_goto (tgt := 3) hx d_Work_readSteps_55 (by decide) ?_
              refine J.lsub (ls' := [(0, .ref (G.1 74)), (1, .ref (G.1 1)), (2, .ref (G.1 4)), (3, .int op), (4, .int ((nI i) + 1))]) [1, 2, 3, 4, 0] rfl ?_
              refine J.to ?_ ?_ (ih3 _ ?_ (i + 1) (rq (tkS (rtF rec op s) 59) (b2 (tkP (rtF rec op s) 59))) hlt3 ((stR_go hlt3 zc15 zc22 zc31).symm.trans hr) rfl)
              · first | (rfl) | fail
              · first | (simp only [nI_s]) | fail
              · first | (omega) | fail
            · skip
              exact j_vret hx hq d_Work_readSteps_34 (by first | (first | exact (stR_end (N := 150)).symm.trans hr | exact (stR_stop (Or.inl zc15)).symm.trans hr | exact (stR_stop (Or.inr (Or.inl zc22))).symm.trans hr | exact (stR_stop (Or.inr (Or.inr zc31))).symm.trans hr) | fail)
  refine J.lsub (ls' := [(0, .ref (G.1 74)), (1, .ref (G.1 1)), (2, .ref (G.1 4)), (3, .int op), (4, .int 0)]) [1, 2, 3, 4, 0] rfl ?_
  refine J.to ?_ ?_ (hl3 _ 0 σ (Nat.zero_le _) rfl rfl)
  · first | (rfl) | fail
  · first | (rfl) | fail

set_option maxRecDepth 20000 in
set_option maxHeartbeats 4000000 in
theorem c_Work_doStep {l : Launch} {G : Gz} (hG : zI G) (σ : St) (step : Int32) : MI l G y_Work_doStep prog_12_method_11_code 7 .boolean 8 [.ref (G.1 74), .int step, .ref (G.1 4), .ref (G.1 50), .ref (G.1 81), .ref (G.1 84)] σ (dsV σ step) (dsS σ step) := by
  refine MI.of hG (by decide) (Nat.le_of_ble_eq_true rfl) (fun X hx hq => ?_)
  show J l G X 7 σ 0 [(0, .ref (G.1 74)), (1, .int step), (2, .ref (G.1 4)), (3, .ref (G.1 50)), (4, .ref (G.1 81)), (5, .ref (G.1 84))] []
  refine j_aload_n hx d_Work_doStep_0 rfl 0 rfl ?_
  refine j_get hx ck_Work 1 (by decide) t_199 (by decide) (sh_74 _ _) rfl d_Work_doStep_1 ?_
  refine j_iload_n hx d_Work_doStep_4 rfl 1 rfl ?_
  refine j_callVi hx (c_Row_getA hG ir_77 78 rfl σ step) mo_Row_get mv_Row_get t_852 (by decide) rfl (by decide) (sh_77 _ _) rfl rfl (Nat.le_of_ble_eq_true rfl) d_Work_doStep_5 ?_
  refine j_istore hx [(6, .int (rg (σ (77 + 1)) 150 step)), (0, .ref (G.1 74)), (1, .int step), (2, .ref (G.1 4)), (3, .ref (G.1 50)), (4, .ref (G.1 81)), (5, .ref (G.1 84))] d_Work_doStep_8 (by decide) rfl ?_
  refine j_aload_n hx d_Work_doStep_10 rfl 1 rfl ?_
  refine j_get hx ck_Work 0 (by decide) t_198 (by decide) (sh_74 _ _) rfl d_Work_doStep_11 ?_
  refine j_iload_n hx d_Work_doStep_14 rfl 2 rfl ?_
  refine j_callVi hx (c_Row_getA hG ir_75 76 rfl σ step) mo_Row_get mv_Row_get t_852 (by decide) rfl (by decide) (sh_75 _ _) rfl rfl (Nat.le_of_ble_eq_true rfl) d_Work_doStep_15 ?_
  refine J.sw (x := rg (σ (75 + 1)) 150 step) 0 (fun zc18_0 => ?_) (fun zc18_0 => ?_)
  · skip
    refine j_tableIn (x := rg (σ (75 + 1)) 150 step) (tgt := 52) (off := 34) hx d_Work_doStep_18 (by rw [zc18_0]; decide) (by rw [zc18_0]; decide) (by rw [zc18_0]; decide) (by decide) ?_
    refine j_aload hx d_Work_doStep_52 5 rfl ?_
    refine j_iload hx d_Work_doStep_54 0 rfl ?_
    refine j_iconst (v := 0) hx d_Work_doStep_56 (by decide) ?_
    refine j_callVi hx (c_Nights_setBurning hG isNights_81 σ (rg (σ (77 + 1)) 150 step) 0) mo_Nights_setBurning mv_Nights_setBurning t_882 (by decide) rfl (by decide) (sh_81 _ _) rfl rfl (Nat.le_of_ble_eq_true rfl) d_Work_doStep_57 ?_
    exact j_iret hx hq (nz_b2 _) d_Work_doStep_60 (by first | (unfold dsV dkV; rw [if_pos zc18_0]; rfl) | fail) (by first | (unfold dsS dkS; rw [if_pos zc18_0]; rfl) | fail)
  refine J.sw (x := rg (σ (75 + 1)) 150 step) 1 (fun zc18_1 => ?_) (fun zc18_1 => ?_)
  · skip
    refine j_tableIn (x := rg (σ (75 + 1)) 150 step) (tgt := 61) (off := 43) hx d_Work_doStep_18 (by rw [zc18_1]; decide) (by rw [zc18_1]; decide) (by rw [zc18_1]; decide) (by decide) ?_
    refine j_aload hx d_Work_doStep_61 5 rfl ?_
    refine j_iload hx d_Work_doStep_63 0 rfl ?_
    refine j_iconst (v := 1) hx d_Work_doStep_65 (by decide) ?_
    refine j_callVi hx (c_Nights_setBurning hG isNights_81 σ (rg (σ (77 + 1)) 150 step) 1) mo_Nights_setBurning mv_Nights_setBurning t_882 (by decide) rfl (by decide) (sh_81 _ _) rfl rfl (Nat.le_of_ble_eq_true rfl) d_Work_doStep_66 ?_
    exact j_iret hx hq (nz_b2 _) d_Work_doStep_69 (by first | (unfold dsV dkV; rw [if_neg zc18_0, if_pos zc18_1]; rfl) | fail) (by first | (unfold dsS dkS; rw [if_neg zc18_0, if_pos zc18_1]; rfl) | fail)
  refine J.sw (x := rg (σ (75 + 1)) 150 step) 2 (fun zc18_2 => ?_) (fun zc18_2 => ?_)
  · skip
    refine j_tableIn (x := rg (σ (75 + 1)) 150 step) (tgt := 70) (off := 52) hx d_Work_doStep_18 (by rw [zc18_2]; decide) (by rw [zc18_2]; decide) (by rw [zc18_2]; decide) (by decide) ?_
    refine j_aload hx d_Work_doStep_70 5 rfl ?_
    refine j_iload hx d_Work_doStep_72 0 rfl ?_
    refine j_aload_n hx d_Work_doStep_74 rfl 1 rfl ?_
    refine j_get hx ck_Work 2 (by decide) t_200 (by decide) (sh_74 _ _) rfl d_Work_doStep_75 ?_
    refine j_iload_n hx d_Work_doStep_78 rfl 2 rfl ?_
    refine j_callVi hx (c_Row_getA hG ir_79 80 rfl σ step) mo_Row_get mv_Row_get t_852 (by decide) rfl (by decide) (sh_79 _ _) rfl rfl (Nat.le_of_ble_eq_true rfl) d_Work_doStep_79 ?_
    refine j_callVi hx (c_Nights_lead hG isNights_81 σ (rg (σ (77 + 1)) 150 step) (rg (σ (79 + 1)) 150 step)) mo_Nights_lead mv_Nights_lead t_890 (by decide) rfl (by decide) (sh_81 _ _) rfl rfl (Nat.le_of_ble_eq_true rfl) d_Work_doStep_82 ?_
    exact j_iret hx hq (nz_b2 _) d_Work_doStep_85 (by first | (unfold dsV dkV; rw [if_neg zc18_0, if_neg zc18_1, if_pos zc18_2]; rfl) | fail) (by first | (unfold dsS dkS; rw [if_neg zc18_0, if_neg zc18_1, if_pos zc18_2]; rfl) | fail)
  refine J.sw (x := rg (σ (75 + 1)) 150 step) 3 (fun zc18_3 => ?_) (fun zc18_3 => ?_)
  · skip
    refine j_tableIn (x := rg (σ (75 + 1)) 150 step) (tgt := 86) (off := 68) hx d_Work_doStep_18 (by rw [zc18_3]; decide) (by rw [zc18_3]; decide) (by rw [zc18_3]; decide) (by decide) ?_
    refine j_aload hx d_Work_doStep_86 5 rfl ?_
    refine j_iload hx d_Work_doStep_88 0 rfl ?_
    refine j_callVi hx (c_Nights_passed hG isNights_81 σ (rg (σ (77 + 1)) 150 step)) mo_Nights_passed mv_Nights_passed t_894 (by decide) rfl (by decide) (sh_81 _ _) rfl rfl (Nat.le_of_ble_eq_true rfl) d_Work_doStep_90 ?_
    refine j_if_ne (tgt := 107) hx d_Work_doStep_93 (by decide) (fun zc93 => ?_) (fun zc93 => ?_)
    · skip
      refine j_iconst (v := 0) hx d_Work_doStep_107 (by decide) ?_
      exact j_iret hx hq rfl d_Work_doStep_108 (by first | (unfold dsV dkV; rw [if_neg zc18_0, if_neg zc18_1, if_neg zc18_2, if_pos zc18_3]; first | exact (if_pos (Or.inl zc93)).symm | exact (if_pos (Or.inr zc104)).symm) | fail) (by first | (unfold dsS dkS; rw [if_neg zc18_0, if_neg zc18_1, if_neg zc18_2, if_pos zc18_3]; first | exact (if_pos (Or.inl zc93)).symm | exact (if_pos (Or.inr zc104)).symm) | fail)
    · skip
      refine j_aload_n hx d_Work_doStep_96 rfl 3 rfl ?_
      refine j_get hx ck_Coast 0 (by decide) t_87 (by decide) (sh_4 _ _) rfl d_Work_doStep_97 ?_
      refine j_iconst (v := 0) hx d_Work_doStep_100 (by decide) ?_
      refine j_callVi hx (c_Row_getA hG ir_5 6 rfl σ 0) mo_Row_get mv_Row_get t_852 (by decide) rfl (by decide) (sh_5 _ _) rfl rfl (Nat.le_of_ble_eq_true rfl) d_Work_doStep_101 ?_
      refine j_if_ne (tgt := 109) hx d_Work_doStep_104 (by decide) (fun zc104 => ?_) (fun zc104 => ?_)
      · skip
        refine j_aload hx d_Work_doStep_109 6 rfl ?_
        refine j_aload_n hx d_Work_doStep_111 rfl 3 rfl ?_
        refine j_aload_n hx d_Work_doStep_112 rfl 4 rfl ?_
        refine j_aload hx d_Work_doStep_113 5 rfl ?_
        refine j_iload hx d_Work_doStep_115 0 rfl ?_
        refine j_callVv hx (c_Passing_pass hG isNights_81 σ (rg (σ (77 + 1)) 150 step)) mo_Passing_pass mv_Passing_pass t_898 (by decide) rfl (by decide) (sh_84 _ _) rfl rfl (Nat.le_of_ble_eq_true rfl) d_Work_doStep_117 ?_
        refine j_iconst (v := 1) hx d_Work_doStep_120 (by decide) ?_
        exact j_iret hx hq rfl d_Work_doStep_121 (by first | (unfold dsV dkV; rw [if_neg zc18_0, if_neg zc18_1, if_neg zc18_2, if_pos zc18_3]; exact (if_neg (fun z => z.elim (fun q => q zc93) zc104)).symm) | fail) (by first | (unfold dsS dkS; rw [if_neg zc18_0, if_neg zc18_1, if_neg zc18_2, if_pos zc18_3]; exact (if_neg (fun z => z.elim (fun q => q zc93) zc104)).symm) | fail)
      · skip
        refine j_iconst (v := 0) hx d_Work_doStep_107 (by decide) ?_
        exact j_iret hx hq rfl d_Work_doStep_108 (by first | (unfold dsV dkV; rw [if_neg zc18_0, if_neg zc18_1, if_neg zc18_2, if_pos zc18_3]; first | exact (if_pos (Or.inl zc93)).symm | exact (if_pos (Or.inr zc104)).symm) | fail) (by first | (unfold dsS dkS; rw [if_neg zc18_0, if_neg zc18_1, if_neg zc18_2, if_pos zc18_3]; first | exact (if_pos (Or.inl zc93)).symm | exact (if_pos (Or.inr zc104)).symm) | fail)
  refine J.sw (x := rg (σ (75 + 1)) 150 step) 4 (fun zc18_4 => ?_) (fun zc18_4 => ?_)
  · skip
    refine j_tableIn (x := rg (σ (75 + 1)) 150 step) (tgt := 122) (off := 104) hx d_Work_doStep_18 (by rw [zc18_4]; decide) (by rw [zc18_4]; decide) (by rw [zc18_4]; decide) (by decide) ?_
    refine j_aload hx d_Work_doStep_122 5 rfl ?_
    refine j_callVi hx (c_Nights_fogComes hG isNights_81 σ) mo_Nights_fogComes mv_Nights_fogComes t_918 (by decide) rfl (by decide) (sh_81 _ _) rfl rfl (Nat.le_of_ble_eq_true rfl) d_Work_doStep_124 ?_
    exact j_iret hx hq (nz_b2 _) d_Work_doStep_127 (by first | (unfold dsV dkV; rw [if_neg zc18_0, if_neg zc18_1, if_neg zc18_2, if_neg zc18_3, if_pos zc18_4]; rfl) | fail) (by first | (unfold dsS dkS; rw [if_neg zc18_0, if_neg zc18_1, if_neg zc18_2, if_neg zc18_3, if_pos zc18_4]; rfl) | fail)
  refine j_tableOut (x := rg (σ (75 + 1)) 150 step) (tgt := 128) hx d_Work_doStep_18 (by have h0 := sw_ne zc18_0; have h1 := sw_ne zc18_1; have h2 := sw_ne zc18_2; have h3 := sw_ne zc18_3; have h4 := sw_ne zc18_4; have q0 : Int32.toInt 0 = 0 := rfl; have q1 : Int32.toInt 1 = 1 := rfl; have q2 : Int32.toInt 2 = 2 := rfl; have q3 : Int32.toInt 3 = 3 := rfl; have q4 : Int32.toInt 4 = 4 := rfl; omega) (by decide) ?_
  refine j_aload hx d_Work_doStep_128 5 rfl ?_
  refine j_iconst (v := 0) hx d_Work_doStep_130 (by decide) ?_
  refine j_callVi hx (c_Nights_get hG isNights_81 σ 0) mo_Nights_get mv_Nights_get t_922 (by decide) rfl (by decide) (sh_81 _ _) rfl rfl (Nat.le_of_ble_eq_true rfl) d_Work_doStep_131 ?_
  refine j_sipush (v := 500) hx d_Work_doStep_134 (by decide) ?_
  refine j_icmp_ge (tgt := 152) hx d_Work_doStep_137 (by decide) (fun zc137 => ?_) (fun zc137 => ?_)
  · skip
    refine j_iconst (v := 0) hx d_Work_doStep_152 (by decide) ?_
    exact j_iret hx hq rfl d_Work_doStep_153 (by first | (unfold dsV dkV; rw [if_neg zc18_0, if_neg zc18_1, if_neg zc18_2, if_neg zc18_3, if_neg zc18_4]; first | exact (if_pos zc137).symm | exact (if_neg zc137).symm) | fail) (by first | (unfold dsS dkS; rw [if_neg zc18_0, if_neg zc18_1, if_neg zc18_2, if_neg zc18_3, if_neg zc18_4]; first | exact (if_pos zc137).symm | exact (if_neg zc137).symm) | fail)
  · skip
    refine j_aload hx d_Work_doStep_140 5 rfl ?_
    refine j_callVi hx (c_Nights_nextNight hG isNights_81 σ) mo_Nights_nextNight mv_Nights_nextNight t_923 (by decide) rfl (by decide) (sh_81 _ _) rfl rfl (Nat.le_of_ble_eq_true rfl) d_Work_doStep_142 ?_
    refine j_if_eq (tgt := 152) hx d_Work_doStep_145 (by decide) (fun zc145 => absurd zc145 (by decide)) (fun _ => ?_)
    refine j_iconst (v := 1) hx d_Work_doStep_148 (by decide) ?_
    refine j_goto (tgt := 153) hx d_Work_doStep_149 (by decide) ?_
    exact j_iret hx hq rfl d_Work_doStep_153 (by first | (unfold dsV dkV; rw [if_neg zc18_0, if_neg zc18_1, if_neg zc18_2, if_neg zc18_3, if_neg zc18_4]; first | exact (if_pos zc137).symm | exact (if_neg zc137).symm) | fail) (by first | (unfold dsS dkS; rw [if_neg zc18_0, if_neg zc18_1, if_neg zc18_2, if_neg zc18_3, if_neg zc18_4]; first | exact (if_pos zc137).symm | exact (if_neg zc137).symm) | fail)

set_option maxRecDepth 20000 in
set_option maxHeartbeats 4000000 in
theorem c_Work_runAgain {l : Launch} {G : Gz} (hG : zI G) (σ : St) (step : Int32) (op : Int32) {kr : Nat} (rec : Int32 → Int32 → St → St) (hrec : ¬ 6 < op → ∀ (f t : Int32) (σ : St), MV l G y_Work_runSteps prog_12_method_9_code 11 kr [.ref (G.1 74), .int f, .int t, .int op, .ref (G.1 4), .ref (G.1 50), .ref (G.1 81), .ref (G.1 84)] σ (rec f t σ)) : MV l G y_Work_runAgain prog_12_method_10_code 9 (kr + 9) [.ref (G.1 74), .int step, .int op, .ref (G.1 4), .ref (G.1 50), .ref (G.1 81), .ref (G.1 84)] σ (raG rec op step σ) := by
  refine MV.of hG (by decide) (Nat.le_of_ble_eq_true rfl) (fun X hx hq => ?_)
  show J l G X 9 σ 0 [(0, .ref (G.1 74)), (1, .int step), (2, .int op), (3, .ref (G.1 4)), (4, .ref (G.1 50)), (5, .ref (G.1 81)), (6, .ref (G.1 84))] []
  refine j_aload_n hx d_Work_runAgain_0 rfl 0 rfl ?_
  refine j_get hx ck_Work 1 (by decide) t_199 (by decide) (sh_74 _ _) rfl d_Work_runAgain_1 ?_
  refine j_iload_n hx d_Work_runAgain_4 rfl 1 rfl ?_
  refine j_callVi hx (c_Row_getA hG ir_77 78 rfl σ step) mo_Row_get mv_Row_get t_852 (by omega) rfl (by decide) (sh_77 _ _) rfl rfl (Nat.le_of_ble_eq_true rfl) d_Work_runAgain_5 ?_
  refine j_bipush (v := 30) hx d_Work_runAgain_8 (by decide) ?_
  refine j_mmin hx t_877 (by omega) (Nat.le_of_ble_eq_true rfl) d_Work_runAgain_10 ?_
  refine j_istore hx [(7, .int (if 30 < (rg (σ (77 + 1)) 150 step) then 30 else (rg (σ (77 + 1)) 150 step))), (0, .ref (G.1 74)), (1, .int step), (2, .int op), (3, .ref (G.1 4)), (4, .ref (G.1 50)), (5, .ref (G.1 81)), (6, .ref (G.1 84))] d_Work_runAgain_13 (by decide) rfl ?_
  obtain ⟨w7, ew7⟩ : ∃ z : Int32, z = tmv σ step := ⟨_, rfl⟩
  refine J.to (ls' := [(7, .int w7), (0, .ref (G.1 74)), (1, .int step), (2, .int op), (3, .ref (G.1 4)), (4, .ref (G.1 50)), (5, .ref (G.1 81)), (6, .ref (G.1 84))]) rfl (by rw [ew7]; rfl) ?_
  refine j_iconst (v := 0) hx d_Work_runAgain_15 (by decide) ?_
  refine j_istore hx [(8, .int 0), (7, .int w7), (0, .ref (G.1 74)), (1, .int step), (2, .int op), (3, .ref (G.1 4)), (4, .ref (G.1 50)), (5, .ref (G.1 81)), (6, .ref (G.1 84))] d_Work_runAgain_16 (by decide) rfl ?_
  have hl18 : ∀ (N9 : Nat) (i : Nat), (i ≤ (ct w7)) → (ct w7) - i = N9 → J l G X 9 ((if 6 < op then σ else it (fun _ s => rec (step + 1) (rg (s 80) 150 step) s) σ i)) 18 [(0, .ref (G.1 74)), (1, .int step), (2, .int op), (3, .ref (G.1 4)), (4, .ref (G.1 50)), (5, .ref (G.1 81)), (6, .ref (G.1 84)), (7, .int w7), (8, .int (nI i))] [] := by
    intro N9
    induction N9 using Nat.strongRecOn with
    | _ N9 ih18 =>
      intro i hi_i hm18
      refine j_iload hx d_Work_runAgain_18 8 rfl ?_
      refine j_iload hx d_Work_runAgain_20 7 rfl ?_
      refine j_icmp_ge (tgt := 60) hx d_Work_runAgain_22 (by decide) (fun zc22 => ?_) (fun zc22 => ?_)
      · skip
        obtain rfl := ct_end' hi_i zc22
        exact j_vret hx hq d_Work_runAgain_60 (by first | (unfold raG; first | (rw [ew7]; done) | (rw [if_pos zc28, if_pos zc28]; done)) | fail)
      · skip
        have hlt18 := ct_go hi_i zc22
        refine j_iload_n hx d_Work_runAgain_25 rfl 2 rfl ?_
        refine j_bipush (v := 6) hx d_Work_runAgain_26 (by decide) ?_
        refine j_icmp_gt (tgt := 60) hx d_Work_runAgain_28 (by decide) (fun zc28 => ?_) (fun zc28 => ?_)
        · skip
          exact j_vret hx hq d_Work_runAgain_60 (by first | (unfold raG; first | (rw [ew7]; done) | (rw [if_pos zc28, if_pos zc28]; done)) | fail)
        · skip
          refine j_aload_n hx d_Work_runAgain_31 rfl 0 rfl ?_
          refine j_iload_n hx d_Work_runAgain_32 rfl 1 rfl ?_
          refine j_iconst (v := 1) hx d_Work_runAgain_33 (by decide) ?_
          refine j_iadd hx d_Work_runAgain_34 ?_
          refine j_aload_n hx d_Work_runAgain_35 rfl 0 rfl ?_
          refine j_get hx ck_Work 2 (by decide) t_200 (by decide) (sh_74 _ _) rfl d_Work_runAgain_36 ?_
          refine j_iload_n hx d_Work_runAgain_39 rfl 1 rfl ?_
          refine j_callVi hx (c_Row_getA hG ir_79 80 rfl ((if 6 < op then σ else it (fun _ s => rec (step + 1) (rg (s 80) 150 step) s) σ i)) step) mo_Row_get mv_Row_get t_852 (by omega) rfl (by decide) (sh_79 _ _) rfl rfl (Nat.le_of_ble_eq_true rfl) d_Work_runAgain_40 ?_
          refine j_iload_n hx d_Work_runAgain_43 rfl 2 rfl ?_
          refine j_aload_n hx d_Work_runAgain_44 rfl 3 rfl ?_
          refine j_aload hx d_Work_runAgain_45 4 rfl ?_
          refine j_aload hx d_Work_runAgain_47 5 rfl ?_
          refine j_aload hx d_Work_runAgain_49 6 rfl ?_
          refine j_callVv hx (hrec zc28 (step + 1) (rg (((if 6 < op then σ else it (fun _ s => rec (step + 1) (rg (s 80) 150 step) s) σ i)) 80) 150 step) ((if 6 < op then σ else it (fun _ s => rec (step + 1) (rg (s 80) 150 step) s) σ i))) mo_Work_runSteps mv_Work_runSteps t_869 (by omega) rfl (by decide) (sh_74 _ _) rfl rfl (Nat.le_of_ble_eq_true rfl) d_Work_runAgain_51 ?_
          refine j_iinc hx [(8, .int ((nI i) + 1)), (0, .ref (G.1 74)), (1, .int step), (2, .int op), (3, .ref (G.1 4)), (4, .ref (G.1 50)), (5, .ref (G.1 81)), (6, .ref (G.1 84)), (7, .int w7)] d_Work_runAgain_54 8 rfl rfl (by decide) rfl ?_
          refine j_goto (tgt := 18) hx d_Work_runAgain_57 (by decide) ?_
          refine J.lsub (ls' := [(0, .ref (G.1 74)), (1, .int step), (2, .int op), (3, .ref (G.1 4)), (4, .ref (G.1 50)), (5, .ref (G.1 81)), (6, .ref (G.1 84)), (7, .int w7), (8, .int ((nI i) + 1))]) [1, 2, 3, 4, 5, 6, 7, 8, 0] rfl ?_
          refine J.to ?_ ?_ (ih18 _ ?_ (i + 1) hlt18 rfl)
          · first | (rw [if_neg zc28, if_neg zc28]; rfl) | fail
          · first | (first | rfl | (simp only [nI_s]; done) | (simp only [nI_s, it_s]; done) | (simp [nI_s, it_s, zc22, zc28]; done)) | fail
          · first | (omega) | fail
  refine J.lsub (ls' := [(0, .ref (G.1 74)), (1, .int step), (2, .int op), (3, .ref (G.1 4)), (4, .ref (G.1 50)), (5, .ref (G.1 81)), (6, .ref (G.1 84)), (7, .int w7), (8, .int 0)]) [2, 3, 4, 5, 6, 7, 8, 1, 0] rfl ?_
  refine J.to ?_ ?_ (hl18 _ 0 (Nat.zero_le _) rfl)
  · first | (split <;> rfl) | fail
  · first | (first | rfl | (simp only [nI_s]; done) | (simp only [nI_s, it_s]; done) | (simp [nI_s, it_s, ]; done)) | fail

set_option maxRecDepth 20000 in
set_option maxHeartbeats 4000000 in
theorem c_Work_runSteps {l : Launch} {G : Gz} (hG : zI G) (σ : St) (frm : Int32) (to : Int32) (op : Int32) {kr : Nat} (rec : Int32 → Int32 → St → St) (hrec : ¬ 6 < op + 1 → ∀ (f t : Int32) (σ : St), MV l G y_Work_runSteps prog_12_method_9_code 11 kr [.ref (G.1 74), .int f, .int t, .int (op + 1), .ref (G.1 4), .ref (G.1 50), .ref (G.1 81), .ref (G.1 84)] σ (rec f t σ)) : MV l G y_Work_runSteps prog_12_method_9_code 11 (kr + 10) [.ref (G.1 74), .int frm, .int to, .int op, .ref (G.1 4), .ref (G.1 50), .ref (G.1 81), .ref (G.1 84)] σ (rgF rec op frm to σ) := by
  refine MV.of hG (by decide) (Nat.le_of_ble_eq_true rfl) (fun X hx hq => ?_)
  show J l G X 11 σ 0 [(0, .ref (G.1 74)), (1, .int frm), (2, .int to), (3, .int op), (4, .ref (G.1 4)), (5, .ref (G.1 50)), (6, .ref (G.1 81)), (7, .ref (G.1 84))] []
  refine j_iload_n hx d_Work_runSteps_0 rfl 1 rfl ?_
  refine j_istore hx [(8, .int frm), (0, .ref (G.1 74)), (1, .int frm), (2, .int to), (3, .int op), (4, .ref (G.1 4)), (5, .ref (G.1 50)), (6, .ref (G.1 81)), (7, .ref (G.1 84))] d_Work_runSteps_1 (by decide) rfl ?_
  refine j_iload_n hx d_Work_runSteps_3 rfl 2 rfl ?_
  refine j_istore hx [(9, .int frm), (8, .int frm), (0, .ref (G.1 74)), (1, .int frm), (2, .int to), (3, .int op), (4, .ref (G.1 4)), (5, .ref (G.1 50)), (6, .ref (G.1 81)), (7, .ref (G.1 84))] d_Work_runSteps_4 (by decide) rfl ?_
  have hl6 : ∀ (N9 : Nat) (iv nx : Int32) (s : St), (rsR (raG rec (op + 1)) to (to.toInt - iv.toInt).toNat nx s = rgF rec op frm to σ) → (to.toInt - iv.toInt).toNat = N9 → J l G X 11 s 6 [(0, .ref (G.1 74)), (1, .int frm), (2, .int to), (3, .int op), (4, .ref (G.1 4)), (5, .ref (G.1 50)), (6, .ref (G.1 81)), (7, .ref (G.1 84)), (8, .int nx), (9, .int iv)] [] := by
    intro N9
    induction N9 using Nat.strongRecOn with
    | _ N9 ih6 =>
      intro iv nx s hr hm6
      refine j_iload hx d_Work_runSteps_6 9 rfl ?_
      refine j_iload_n hx d_Work_runSteps_8 rfl 2 rfl ?_
      refine j_icmp_ge (tgt := 136) hx d_Work_runSteps_9 (by decide) (fun zc9 => ?_) (fun zc9 => ?_)
      · skip
        exact j_vret hx hq d_Work_runSteps_136 (by first | (first | exact (rsR_zero zc9).symm.trans hr | exact (rsR_stop (fun z => i_lelt zc15 z.1)).symm.trans hr | exact (rsR_stop (fun z => i_lelt zc25 z.2)).symm.trans hr) | fail)
      · skip
        refine j_iload hx d_Work_runSteps_12 8 rfl ?_
        refine j_iload_n hx d_Work_runSteps_14 rfl 2 rfl ?_
        refine j_icmp_ge (tgt := 136) hx d_Work_runSteps_15 (by decide) (fun zc15 => ?_) (fun zc15 => ?_)
        · skip
          exact j_vret hx hq d_Work_runSteps_136 (by first | (first | exact (rsR_zero zc9).symm.trans hr | exact (rsR_stop (fun z => i_lelt zc15 z.1)).symm.trans hr | exact (rsR_stop (fun z => i_lelt zc25 z.2)).symm.trans hr) | fail)
        · skip
          refine j_aload_n hx d_Work_runSteps_18 rfl 0 rfl ?_
          refine j_get hx ck_Work 4 (by decide) t_202 (by decide) (sh_74 _ _) rfl d_Work_runSteps_19 ?_
          refine j_sipush (v := 200) hx d_Work_runSteps_22 (by decide) ?_
          refine j_icmp_ge (tgt := 136) hx d_Work_runSteps_25 (by decide) (fun zc25 => ?_) (fun zc25 => ?_)
          · skip
            exact j_vret hx hq d_Work_runSteps_136 (by first | (first | exact (rsR_zero zc9).symm.trans hr | exact (rsR_stop (fun z => i_lelt zc15 z.1)).symm.trans hr | exact (rsR_stop (fun z => i_lelt zc25 z.2)).symm.trans hr) | fail)
          · skip
            refine j_iload hx d_Work_runSteps_28 8 rfl ?_
            refine j_istore hx [(10, .int nx), (0, .ref (G.1 74)), (1, .int frm), (2, .int to), (3, .int op), (4, .ref (G.1 4)), (5, .ref (G.1 50)), (6, .ref (G.1 81)), (7, .ref (G.1 84)), (8, .int nx), (9, .int iv)] d_Work_runSteps_30 (by decide) rfl ?_
            refine j_iinc hx [(8, .int (nx + 1)), (10, .int nx), (0, .ref (G.1 74)), (1, .int frm), (2, .int to), (3, .int op), (4, .ref (G.1 4)), (5, .ref (G.1 50)), (6, .ref (G.1 81)), (7, .ref (G.1 84)), (9, .int iv)] d_Work_runSteps_32 9 rfl rfl (by decide) rfl ?_
            refine j_aload_n hx d_Work_runSteps_35 rfl 2 rfl ?_
            refine j_dup hx d_Work_runSteps_36 rfl ?_
            refine j_get hx ck_Work 4 (by decide) t_202 (by decide) (sh_74 _ _) rfl d_Work_runSteps_37 ?_
            refine j_iconst (v := 1) hx d_Work_runSteps_40 (by decide) ?_
            refine j_iadd hx d_Work_runSteps_41 ?_
            refine j_put hx ck_Work 4 (by decide) t_202 (by decide) (sh_74 _ _) rfl (Nat.le_of_ble_eq_true rfl) (sh_74 _ _) d_Work_runSteps_42 ?_
            obtain ⟨s9_1, eg_1⟩ : ∃ z : St, z = rb1 s := ⟨_, rfl⟩
            refine J.to (σ' := s9_1) (by rw [eg_1]; first | done | rfl) rfl ?_
            refine j_aload_n hx d_Work_runSteps_45 rfl 2 rfl ?_
            refine j_get hx ck_Work 0 (by decide) t_198 (by decide) (sh_74 _ _) rfl d_Work_runSteps_46 ?_
            refine j_iload hx d_Work_runSteps_49 1 rfl ?_
            refine j_callVi hx (c_Row_getA hG ir_75 76 rfl s9_1 nx) mo_Row_get mv_Row_get t_852 (by omega) rfl (by decide) (sh_75 _ _) rfl rfl (Nat.le_of_ble_eq_true rfl) d_Work_runSteps_51 ?_
            refine j_bipush (v := 6) hx d_Work_runSteps_54 (by decide) ?_
            refine j_icmp_ne (tgt := 90) hx d_Work_runSteps_56 (by decide) (fun zc56 => ?_) (fun zc56 => ?_)
            · skip
              refine j_aload_n hx d_Work_runSteps_90 rfl 2 rfl ?_
              refine j_iload hx d_Work_runSteps_91 1 rfl ?_
              refine j_aload hx d_Work_runSteps_93 6 rfl ?_
              refine j_aload hx d_Work_runSteps_95 7 rfl ?_
              refine j_aload hx d_Work_runSteps_97 8 rfl ?_
              refine j_aload hx d_Work_runSteps_99 9 rfl ?_
              refine j_callVi hx (c_Work_doStep hG s9_1 nx) mo_Work_doStep mv_Work_doStep t_878 (by omega) rfl (by decide) (sh_74 _ _) rfl rfl (Nat.le_of_ble_eq_true rfl) d_Work_runSteps_101 ?_
              refine j_if_eq (tgt := 120) hx d_Work_runSteps_104 (by decide) (fun zc104 => ?_) (fun zc104 => ?_)
              · skip
                refine j_aload_n hx d_Work_runSteps_120 rfl 2 rfl ?_
                refine j_dup hx d_Work_runSteps_121 rfl ?_
                refine j_get hx ck_Work 6 (by decide) t_204 (by decide) (sh_74 _ _) rfl d_Work_runSteps_122 ?_
                refine j_iconst (v := 1) hx d_Work_runSteps_125 (by decide) ?_
                refine j_iadd hx d_Work_runSteps_126 ?_
                refine j_put hx ck_Work 6 (by decide) t_204 (by decide) (sh_74 _ _) rfl (Nat.le_of_ble_eq_true rfl) (sh_74 _ _) d_Work_runSteps_127 ?_
                obtain ⟨s9_2, eg_2⟩ : ∃ z : St, z = rb2 s9_1 nx := ⟨_, rfl⟩
                refine J.to (σ' := s9_2) (by rw [eg_2]; unfold rb2; first | (rw [if_pos zc104]; done) | (rw [if_neg zc104]; done)) rfl ?_
                refine j_iinc hx [(9, .int (iv + 1)), (8, .int (nx + 1)), (10, .int nx), (0, .ref (G.1 74)), (1, .int frm), (2, .int to), (3, .int op), (4, .ref (G.1 4)), (5, .ref (G.1 50)), (6, .ref (G.1 81)), (7, .ref (G.1 84))] d_Work_runSteps_130 10 rfl rfl (by decide) rfl ?_
                refine j_goto (tgt := 6) hx d_Work_runSteps_133 (by decide) ?_
                refine J.lsub (ls' := [(0, .ref (G.1 74)), (1, .int frm), (2, .int to), (3, .int op), (4, .ref (G.1 4)), (5, .ref (G.1 50)), (6, .ref (G.1 81)), (7, .ref (G.1 84)), (8, .int (nx + 1)), (9, .int (iv + 1))]) [3, 4, 5, 6, 7, 8, 9, 10, 1, 0] rfl ?_
                refine J.to ?_ ?_ (ih6 _ ?_ (iv + 1) (nx + 1) s9_2 (by first | (rw [eg_1] at zc56 ⊢; exact (rsR_1 (i_nle zc9) (i_nle zc15) (i_nle zc25) zc56).symm.trans hr) | (rw [eg_2, eg_1]; rw [eg_1] at zc56; exact (rsR_2 (i_nle zc9) (i_nle zc15) (i_nle zc25) zc56).symm.trans hr)) rfl)
                · first | (rfl) | fail
                · first | (rfl) | fail
                · first | (exact rn_dec (i_nle zc9) hm6) | fail
              · skip
                refine j_aload_n hx d_Work_runSteps_107 rfl 2 rfl ?_
                refine j_dup hx d_Work_runSteps_108 rfl ?_
                refine j_get hx ck_Work 5 (by decide) t_203 (by decide) (sh_74 _ _) rfl d_Work_runSteps_109 ?_
                refine j_iconst (v := 1) hx d_Work_runSteps_112 (by decide) ?_
                refine j_iadd hx d_Work_runSteps_113 ?_
                refine j_put hx ck_Work 5 (by decide) t_203 (by decide) (sh_74 _ _) rfl (Nat.le_of_ble_eq_true rfl) (sh_74 _ _) d_Work_runSteps_114 ?_
                refine j_goto (tgt := 130) hx d_Work_runSteps_117 (by decide) ?_
                obtain ⟨s9_2, eg_2⟩ : ∃ z : St, z = rb2 s9_1 nx := ⟨_, rfl⟩
                refine J.to (σ' := s9_2) (by rw [eg_2]; unfold rb2; first | (rw [if_pos zc104]; done) | (rw [if_neg zc104]; done)) rfl ?_
                refine j_iinc hx [(9, .int (iv + 1)), (8, .int (nx + 1)), (10, .int nx), (0, .ref (G.1 74)), (1, .int frm), (2, .int to), (3, .int op), (4, .ref (G.1 4)), (5, .ref (G.1 50)), (6, .ref (G.1 81)), (7, .ref (G.1 84))] d_Work_runSteps_130 10 rfl rfl (by decide) rfl ?_
                refine j_goto (tgt := 6) hx d_Work_runSteps_133 (by decide) ?_
                refine J.lsub (ls' := [(0, .ref (G.1 74)), (1, .int frm), (2, .int to), (3, .int op), (4, .ref (G.1 4)), (5, .ref (G.1 50)), (6, .ref (G.1 81)), (7, .ref (G.1 84)), (8, .int (nx + 1)), (9, .int (iv + 1))]) [3, 4, 5, 6, 7, 8, 9, 10, 1, 0] rfl ?_
                refine J.to ?_ ?_ (ih6 _ ?_ (iv + 1) (nx + 1) s9_2 (by first | (rw [eg_1] at zc56 ⊢; exact (rsR_1 (i_nle zc9) (i_nle zc15) (i_nle zc25) zc56).symm.trans hr) | (rw [eg_2, eg_1]; rw [eg_1] at zc56; exact (rsR_2 (i_nle zc9) (i_nle zc15) (i_nle zc25) zc56).symm.trans hr)) rfl)
                · first | (rfl) | fail
                · first | (rfl) | fail
                · first | (exact rn_dec (i_nle zc9) hm6) | fail
            · skip
              refine j_aload_n hx d_Work_runSteps_59 rfl 2 rfl ?_
              refine j_iload hx d_Work_runSteps_60 1 rfl ?_
              refine j_iload_n hx d_Work_runSteps_62 rfl 5 rfl ?_
              refine j_iconst (v := 1) hx d_Work_runSteps_63 (by decide) ?_
              refine j_iadd hx d_Work_runSteps_64 ?_
              refine j_aload hx d_Work_runSteps_65 6 rfl ?_
              refine j_aload hx d_Work_runSteps_67 7 rfl ?_
              refine j_aload hx d_Work_runSteps_69 8 rfl ?_
              refine j_aload hx d_Work_runSteps_71 9 rfl ?_
              refine j_callVv hx (c_Work_runAgain hG s9_1 nx (op + 1) rec hrec) mo_Work_runAgain mv_Work_runAgain t_873 (by omega) rfl (by decide) (sh_74 _ _) rfl rfl (Nat.le_of_ble_eq_true rfl) d_Work_runSteps_73 ?_
              refine j_aload_n hx d_Work_runSteps_76 rfl 2 rfl ?_
              refine j_get hx ck_Work 2 (by decide) t_200 (by decide) (sh_74 _ _) rfl d_Work_runSteps_77 ?_
              refine j_iload hx d_Work_runSteps_80 1 rfl ?_
              refine j_callVi hx (c_Row_getA hG ir_79 80 rfl (raG rec (op + 1) nx s9_1) nx) mo_Row_get mv_Row_get t_852 (by omega) rfl (by decide) (sh_79 _ _) rfl rfl (Nat.le_of_ble_eq_true rfl) d_Work_runSteps_82 ?_
              refine j_istore hx [(8, .int (rg ((raG rec (op + 1) nx s9_1) (79 + 1)) 150 nx)), (10, .int nx), (0, .ref (G.1 74)), (1, .int frm), (2, .int to), (3, .int op), (4, .ref (G.1 4)), (5, .ref (G.1 50)), (6, .ref (G.1 81)), (7, .ref (G.1 84)), (9, .int iv)] d_Work_runSteps_85 (by decide) rfl ?_
              refine j_goto (tgt := 130) hx d_Work_runSteps_87 (by decide) ?_
              refine j_iinc hx [(9, .int (iv + 1)), (8, .int (rg ((raG rec (op + 1) nx s9_1) (79 + 1)) 150 nx)), (10, .int nx), (0, .ref (G.1 74)), (1, .int frm), (2, .int to), (3, .int op), (4, .ref (G.1 4)), (5, .ref (G.1 50)), (6, .ref (G.1 81)), (7, .ref (G.1 84))] d_Work_runSteps_130 10 rfl rfl (by decide) rfl ?_
              refine j_goto (tgt := 6) hx d_Work_runSteps_133 (by decide) ?_
              refine J.lsub (ls' := [(0, .ref (G.1 74)), (1, .int frm), (2, .int to), (3, .int op), (4, .ref (G.1 4)), (5, .ref (G.1 50)), (6, .ref (G.1 81)), (7, .ref (G.1 84)), (8, .int (rg ((raG rec (op + 1) nx s9_1) (79 + 1)) 150 nx)), (9, .int (iv + 1))]) [3, 4, 5, 6, 7, 8, 9, 10, 1, 0] rfl ?_
              refine J.to ?_ ?_ (ih6 _ ?_ (iv + 1) (rg ((raG rec (op + 1) nx s9_1) (79 + 1)) 150 nx) (raG rec (op + 1) nx s9_1) (by first | (rw [eg_1] at zc56 ⊢; exact (rsR_1 (i_nle zc9) (i_nle zc15) (i_nle zc25) zc56).symm.trans hr) | (rw [eg_2, eg_1]; rw [eg_1] at zc56; exact (rsR_2 (i_nle zc9) (i_nle zc15) (i_nle zc25) zc56).symm.trans hr)) rfl)
              · first | (rfl) | fail
              · first | (rfl) | fail
              · first | (exact rn_dec (i_nle zc9) hm6) | fail
  refine J.lsub (ls' := [(0, .ref (G.1 74)), (1, .int frm), (2, .int to), (3, .int op), (4, .ref (G.1 4)), (5, .ref (G.1 50)), (6, .ref (G.1 81)), (7, .ref (G.1 84)), (8, .int frm), (9, .int frm)]) [2, 3, 4, 5, 6, 7, 8, 9, 1, 0] rfl ?_
  refine J.to ?_ ?_ (hl6 _ frm frm σ rfl rfl)
  · first | (rfl) | fail
  · first | (rfl) | fail

theorem c_Work_readStepsN {l : Launch} {G : Gz} (hG : zI G) : ∀ (n : Nat) (op : Int32), op = nI (6 - n) → n ≤ 6 → ∀ σ : St, MV l G y_Work_readSteps prog_12_method_5_code 5 (9 + 9 * n) [.ref (G.1 74), .ref (G.1 1), .ref (G.1 4), .int op] σ (wsN n op σ) := by
  intro n
  induction n with
  | zero =>
    intro op hop _ σ
    exact c_Work_readSteps hG σ op (kr := 0) (fun s => s) (fun h => absurd h (by rw [hop]; decide))
  | succ n ih =>
    intro op hop hn σ
    have h := c_Work_readSteps hG σ op (kr := 9 + 9 * n) (wsN n (op + 1)) (fun _ => ih (op + 1) (by rw [hop, nI_s]; congr 1; omega) (by omega))
    rw [show 9 + 9 * (n + 1) = 9 + 9 * n + 9 by omega]
    exact h
theorem c_Work_runStepsN {l : Launch} {G : Gz} (hG : zI G) : ∀ (n : Nat) (op : Int32), op = nI (6 - n) → n ≤ 6 → ∀ (frm to : Int32) (σ : St), MV l G y_Work_runSteps prog_12_method_9_code 11 (10 + 10 * n) [.ref (G.1 74), .int frm, .int to, .int op, .ref (G.1 4), .ref (G.1 50), .ref (G.1 81), .ref (G.1 84)] σ (rgN n op frm to σ) := by
  intro n
  induction n with
  | zero =>
    intro op hop _ frm to σ
    exact c_Work_runSteps hG σ frm to op (kr := 0) (fun _ _ s => s) (fun h => absurd (by rw [hop]; decide) h)
  | succ n ih =>
    intro op hop hn frm to σ
    have h := c_Work_runSteps hG σ frm to op (kr := 10 + 10 * n) (rgN n (op + 1)) (fun _ => ih (op + 1) (by rw [hop, nI_s]; congr 1; omega) (by omega))
    rw [show 10 + 10 * (n + 1) = 10 + 10 * n + 10 by omega]
    exact h

set_option maxRecDepth 20000 in
set_option maxHeartbeats 4000000 in
theorem c_Work_readFrom {l : Launch} {G : Gz} (hG : zI G) (σ : St) : MV l G y_Work_readFrom prog_12_method_4_code 3 64 [.ref (G.1 74), .ref (G.1 1), .ref (G.1 4)] σ (wkR σ) := by
  refine MV.of hG (by decide) (Nat.le_of_ble_eq_true rfl) (fun X hx hq => ?_)
  show J l G X 3 σ 0 [(0, .ref (G.1 74)), (1, .ref (G.1 1)), (2, .ref (G.1 4))] []
  refine j_aload_n hx d_Work_readFrom_0 rfl 0 rfl ?_
  refine j_iconst (v := 0) hx d_Work_readFrom_1 (by decide) ?_
  refine j_put hx ck_Work 3 (by decide) t_201 (by decide) (sh_74 _ _) rfl (Nat.le_of_ble_eq_true rfl) (sh_74 _ _) d_Work_readFrom_2 ?_
  refine j_aload_n hx d_Work_readFrom_5 rfl 0 rfl ?_
  refine j_aload_n hx d_Work_readFrom_6 rfl 1 rfl ?_
  refine j_aload_n hx d_Work_readFrom_7 rfl 2 rfl ?_
  refine j_iconst (v := 0) hx d_Work_readFrom_8 (by decide) ?_
  refine j_callVv hx (c_Work_readStepsN hG 6 0 rfl (by decide) (up σ 74 3 0)) mo_Work_readSteps mv_Work_readSteps t_835 (by decide) rfl (by decide) (sh_74 _ _) rfl rfl (Nat.le_of_ble_eq_true rfl) d_Work_readFrom_9 ?_
  refine j_aload_n hx d_Work_readFrom_12 rfl 1 rfl ?_
  refine j_aload_n hx d_Work_readFrom_13 rfl 1 rfl ?_
  refine j_callVi hx (c_Tape_ended hG (wsN 6 0 (up σ 74 3 0))) mo_Tape_ended mv_Tape_ended t_840 (by decide) rfl (by decide) (sh_1 _ _) rfl rfl (Nat.le_of_ble_eq_true rfl) d_Work_readFrom_14 ?_
  refine j_callVv hx (c_Tape_require hG (wsN 6 0 (up σ 74 3 0)) (b2 ((wsN 6 0 (up σ 74 3 0)) 1 2 ≤ (wsN 6 0 (up σ 74 3 0)) 1 3))) mo_Tape_require mv_Tape_require t_860 (by decide) rfl (by decide) (sh_1 _ _) rfl rfl (Nat.le_of_ble_eq_true rfl) d_Work_readFrom_17 ?_
  exact j_vret hx hq d_Work_readFrom_20 (by first | (rfl) | fail)

set_option maxRecDepth 20000 in
set_option maxHeartbeats 4000000 in
theorem c_Work_run {l : Launch} {G : Gz} (hG : zI G) (σ : St) : MV l G y_Work_run prog_12_method_8_code 5 71 [.ref (G.1 74), .ref (G.1 4), .ref (G.1 50), .ref (G.1 81), .ref (G.1 84)] σ (wrS σ) := by
  refine MV.of hG (by decide) (Nat.le_of_ble_eq_true rfl) (fun X hx hq => ?_)
  show J l G X 5 σ 0 [(0, .ref (G.1 74)), (1, .ref (G.1 4)), (2, .ref (G.1 50)), (3, .ref (G.1 81)), (4, .ref (G.1 84))] []
  refine j_aload_n hx d_Work_run_0 rfl 0 rfl ?_
  refine j_iconst (v := 0) hx d_Work_run_1 (by decide) ?_
  refine j_put hx ck_Work 4 (by decide) t_202 (by decide) (sh_74 _ _) rfl (Nat.le_of_ble_eq_true rfl) (sh_74 _ _) d_Work_run_2 ?_
  refine j_aload_n hx d_Work_run_5 rfl 0 rfl ?_
  refine j_iconst (v := 0) hx d_Work_run_6 (by decide) ?_
  refine j_put hx ck_Work 5 (by decide) t_203 (by decide) (sh_74 _ _) rfl (Nat.le_of_ble_eq_true rfl) (sh_74 _ _) d_Work_run_7 ?_
  refine j_aload_n hx d_Work_run_10 rfl 0 rfl ?_
  refine j_iconst (v := 0) hx d_Work_run_11 (by decide) ?_
  refine j_put hx ck_Work 6 (by decide) t_204 (by decide) (sh_74 _ _) rfl (Nat.le_of_ble_eq_true rfl) (sh_74 _ _) d_Work_run_12 ?_
  obtain ⟨s9_1, eg_1⟩ : ∃ z : St, z = wr0 σ := ⟨_, rfl⟩
  refine J.to (σ' := s9_1) (by rw [eg_1]; first | done | rfl) rfl ?_
  refine j_aload_n hx d_Work_run_15 rfl 0 rfl ?_
  refine j_iconst (v := 0) hx d_Work_run_16 (by decide) ?_
  refine j_aload_n hx d_Work_run_17 rfl 0 rfl ?_
  refine j_get hx ck_Work 3 (by decide) t_201 (by decide) (sh_74 _ _) rfl d_Work_run_18 ?_
  refine j_iconst (v := 0) hx d_Work_run_21 (by decide) ?_
  refine j_aload_n hx d_Work_run_22 rfl 1 rfl ?_
  refine j_aload_n hx d_Work_run_23 rfl 2 rfl ?_
  refine j_aload_n hx d_Work_run_24 rfl 3 rfl ?_
  refine j_aload hx d_Work_run_25 4 rfl ?_
  refine j_callVv hx (c_Work_runStepsN hG 6 0 rfl (by decide) 0 (s9_1 74 3) s9_1) mo_Work_runSteps mv_Work_runSteps t_869 (by decide) rfl (by decide) (sh_74 _ _) rfl rfl (Nat.le_of_ble_eq_true rfl) d_Work_run_27 ?_
  exact j_vret hx hq d_Work_run_30 (by first | (rw [eg_1]; rfl) | fail)

set_option maxRecDepth 20000 in
set_option maxHeartbeats 4000000 in
theorem c_Work_done {l : Launch} {G : Gz} (hG : zI G) (σ : St) : MI l G y_Work_done prog_12_method_2_code 1 .int 1 [.ref (G.1 74)] σ (σ 74 5) σ := by
  refine MI.of hG (by decide) (Nat.le_of_ble_eq_true rfl) (fun X hx hq => ?_)
  show J l G X 1 σ 0 [(0, .ref (G.1 74))] []
  refine j_aload_n hx d_Work_done_0 rfl 0 rfl ?_
  refine j_get hx ck_Work 5 (by decide) t_203 (by decide) (sh_74 _ _) rfl d_Work_done_1 ?_
  exact j_iret hx hq rfl d_Work_done_4 (by first | (first | rfl | (simp only []; done) | (simp []; done)) | fail) (by first | (first | rfl | (simp only []; done) | (simp []; done)) | fail)

set_option maxRecDepth 20000 in
set_option maxHeartbeats 4000000 in
theorem c_Work_refused {l : Launch} {G : Gz} (hG : zI G) (σ : St) : MI l G y_Work_refused prog_12_method_3_code 1 .int 1 [.ref (G.1 74)] σ (σ 74 6) σ := by
  refine MI.of hG (by decide) (Nat.le_of_ble_eq_true rfl) (fun X hx hq => ?_)
  show J l G X 1 σ 0 [(0, .ref (G.1 74))] []
  refine j_aload_n hx d_Work_refused_0 rfl 0 rfl ?_
  refine j_get hx ck_Work 6 (by decide) t_204 (by decide) (sh_74 _ _) rfl d_Work_refused_1 ?_
  exact j_iret hx hq rfl d_Work_refused_4 (by first | (first | rfl | (simp only []; done) | (simp []; done)) | fail) (by first | (first | rfl | (simp only []; done) | (simp []; done)) | fail)
