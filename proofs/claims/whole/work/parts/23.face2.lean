def xc1 (s : St) (n : Int32) : St := rfS (opn s n)
def lgz (s : St) : St := up (fl s 70 60 (fun _ => 0)) 68 1 0
def hiz (s : St) : St := up (up s 102 3 0) 102 4 0
def niz (s : St) : St := nrs s (ct (cM s 2))
def xc2 (s : St) : St := up (niz (hiz (lgz (lrs (bcS s) 50)))) 0 14 0
def xcS (s : St) (n : Int32) : St := if b2 ((xc1 s n) 1 5 = 0) = 0 then xc1 s n else xc2 (xc1 s n)
def xcV (s : St) (n : Int32) : Int32 := if b2 ((xc1 s n) 1 5 = 0) = 0 then (xc1 s n) 1 5 - 10 else rg ((xc2 (xc1 s n)) 6) 6 3
def xl1 (s : St) (n : Int32) : St := lwR (opn s n)
def xlS (s : St) (n : Int32) : St := if b2 ((xl1 s n) 1 5 = 0) = 0 then xl1 s n else lbc (xl1 s n) 50 59
def xlV (s : St) (n : Int32) : Int32 := if b2 ((xl1 s n) 1 5 = 0) = 0 then (xl1 s n) 1 5 - 10 else 1
def xg1 (s : St) (n : Int32) : St := lgS (opn s n)
def xg2 (s : St) : St := up (cpy s 69 60 72 60 0 0 (Int32.ofNat 60)) 68 1 ((cpy s 69 60 72 60 0 0 (Int32.ofNat 60)) 71 1)
def xgS (s : St) (n : Int32) : St := if b2 ((xg1 s n) 1 5 = 0) = 0 then xg1 s n else xg2 (xg1 s n)
def xgV (s : St) (n : Int32) : Int32 := if b2 ((xg1 s n) 1 5 = 0) = 0 then (xg1 s n) 1 5 - 10 else (xg2 (xg1 s n)) 68 1

set_option maxRecDepth 20000 in
set_option maxHeartbeats 4000000 in
theorem c_DL_coast {l : Launch} {G : Gz} (hG : zI G) (σ : St) (n : Int32) (h1 : ¬ n < 0) (h2 : n ≤ if σ 1 1 < 600 then σ 1 1 else 600) : MI l G y_DL_coast prog_1_method_3_code 2 .int 40 [.ref (G.1 0), .int n] σ (xcV σ n) (xcS σ n) := by
  refine MI.of hG (by decide) (Nat.le_of_ble_eq_true rfl) (fun X hx hq => ?_)
  show J l G X 2 σ 0 [(0, .ref (G.1 0)), (1, .int n)] []
  refine j_aload_n hx d_DL_coast_0 rfl 0 rfl ?_
  refine j_iload_n hx d_DL_coast_1 rfl 1 rfl ?_
  refine j_sipush (v := 600) hx d_DL_coast_2 (by decide) ?_
  refine j_callVv hx (c_DL_openText hG σ n 600 (by exact h1) (by exact h2)) mo_DL_openText mv_DL_openText t_557 (by decide) rfl (by decide) (sh_0 _ _) rfl rfl (Nat.le_of_ble_eq_true rfl) d_DL_coast_5 ?_
  refine j_aload_n hx d_DL_coast_8 rfl 0 rfl ?_
  refine j_get hx ck_DL 2 (by decide) t_328 (by decide) (sh_0 _ _) rfl d_DL_coast_9 ?_
  refine j_aload_n hx d_DL_coast_12 rfl 0 rfl ?_
  refine j_get hx ck_DL 0 (by decide) t_326 (by decide) (sh_0 _ _) rfl d_DL_coast_13 ?_
  refine j_callVv hx (c_Coast_readFrom hG (opn σ n)) mo_Coast_readFrom mv_Coast_readFrom t_642 (by decide) rfl (by decide) (sh_27 _ _) rfl rfl (Nat.le_of_ble_eq_true rfl) d_DL_coast_16 ?_
  obtain ⟨s9_1, eg_1⟩ : ∃ z : St, z = xc1 σ n := ⟨_, rfl⟩
  refine J.to (σ' := s9_1) (by rw [eg_1]; first | done | rfl) rfl ?_
  refine j_aload_n hx d_DL_coast_19 rfl 0 rfl ?_
  refine j_get hx ck_DL 0 (by decide) t_326 (by decide) (sh_0 _ _) rfl d_DL_coast_20 ?_
  refine j_callVi hx (c_Tape_fine hG s9_1) mo_Tape_fine mv_Tape_fine t_754 (by decide) rfl (by decide) (sh_1 _ _) rfl rfl (Nat.le_of_ble_eq_true rfl) d_DL_coast_23 ?_
  refine j_if_ne (tgt := 37) hx d_DL_coast_26 (by decide) (fun zc26 => ?_) (fun zc26 => ?_)
  · skip
    refine j_aload_n hx d_DL_coast_37 rfl 0 rfl ?_
    refine j_get hx ck_DL 1 (by decide) t_327 (by decide) (sh_0 _ _) rfl d_DL_coast_38 ?_
    refine j_aload_n hx d_DL_coast_41 rfl 0 rfl ?_
    refine j_get hx ck_DL 2 (by decide) t_328 (by decide) (sh_0 _ _) rfl d_DL_coast_42 ?_
    refine j_callVv hx (c_Coast_become hG s9_1) mo_Coast_become mv_Coast_become t_759 (by decide) rfl (by decide) (sh_4 _ _) rfl rfl (Nat.le_of_ble_eq_true rfl) d_DL_coast_45 ?_
    obtain ⟨s9_2, eg_2⟩ : ∃ z : St, z = bcS s9_1 := ⟨_, rfl⟩
    refine J.to (σ' := s9_2) (by rw [eg_2]; first | done | rfl) rfl ?_
    refine j_aload_n hx d_DL_coast_48 rfl 0 rfl ?_
    refine j_get hx ck_DL 3 (by decide) t_329 (by decide) (sh_0 _ _) rfl d_DL_coast_49 ?_
    refine j_callVv hx (c_Law_reset hG isLaw_50 s9_2) mo_Law_reset mv_Law_reset t_768 (by decide) rfl (by decide) (sh_50 _ _) rfl rfl (Nat.le_of_ble_eq_true rfl) d_DL_coast_52 ?_
    obtain ⟨s9_3, eg_3⟩ : ∃ z : St, z = lrs s9_2 50 := ⟨_, rfl⟩
    refine J.to (σ' := s9_3) (by rw [eg_3]; first | done | rfl) rfl ?_
    refine j_aload_n hx d_DL_coast_55 rfl 0 rfl ?_
    refine j_get hx ck_DL 5 (by decide) t_331 (by decide) (sh_0 _ _) rfl d_DL_coast_56 ?_
    refine j_callVv hx (c_FlashLog_reset hG isLog_68 s9_3) mo_FlashLog_reset mv_FlashLog_reset t_769 (by decide) rfl (by decide) (sh_68 _ _) rfl rfl (Nat.le_of_ble_eq_true rfl) d_DL_coast_59 ?_
    obtain ⟨s9_4, eg_4⟩ : ∃ z : St, z = lgz s9_3 := ⟨_, rfl⟩
    refine J.to (σ' := s9_4) (by rw [eg_4]; first | done | rfl) rfl ?_
    refine j_aload_n hx d_DL_coast_62 rfl 0 rfl ?_
    refine j_get hx ck_DL 12 (by decide) t_338 (by decide) (sh_0 _ _) rfl d_DL_coast_63 ?_
    refine j_callVv hx (c_History_reset hG s9_4) mo_History_reset mv_History_reset t_774 (by decide) rfl (by decide) (sh_102 _ _) rfl rfl (Nat.le_of_ble_eq_true rfl) d_DL_coast_66 ?_
    obtain ⟨s9_5, eg_5⟩ : ∃ z : St, z = hiz s9_4 := ⟨_, rfl⟩
    refine J.to (σ' := s9_5) (by rw [eg_5]; first | done | rfl) rfl ?_
    refine j_aload_n hx d_DL_coast_69 rfl 0 rfl ?_
    refine j_get hx ck_DL 8 (by decide) t_334 (by decide) (sh_0 _ _) rfl d_DL_coast_70 ?_
    refine j_aload_n hx d_DL_coast_73 rfl 0 rfl ?_
    refine j_get hx ck_DL 1 (by decide) t_327 (by decide) (sh_0 _ _) rfl d_DL_coast_74 ?_
    refine j_callVv hx (c_Nights_reset hG s9_5) mo_Nights_reset mv_Nights_reset t_778 (by decide) rfl (by decide) (sh_81 _ _) rfl rfl (Nat.le_of_ble_eq_true rfl) d_DL_coast_77 ?_
    obtain ⟨s9_6, eg_6⟩ : ∃ z : St, z = niz s9_5 := ⟨_, rfl⟩
    refine J.to (σ' := s9_6) (by rw [eg_6]; first | done | rfl) rfl ?_
    refine j_aload_n hx d_DL_coast_80 rfl 0 rfl ?_
    refine j_iconst (v := 0) hx d_DL_coast_81 (by decide) ?_
    refine j_put hx ck_DL 14 (by decide) t_340 (by decide) (sh_0 _ _) rfl (Nat.le_of_ble_eq_true rfl) (sh_0 _ _) d_DL_coast_82 ?_
    refine j_aload_n hx d_DL_coast_85 rfl 0 rfl ?_
    refine j_get hx ck_DL 1 (by decide) t_327 (by decide) (sh_0 _ _) rfl d_DL_coast_86 ?_
    refine j_get hx ck_Coast 0 (by decide) t_85 (by decide) (sh_4 _ _) rfl d_DL_coast_89 ?_
    refine j_iconst (v := 3) hx d_DL_coast_92 (by decide) ?_
    refine j_callVi hx (c_Row_getA hG ir_5 6 rfl (up s9_6 0 14 0) 3) mo_Row_get mv_Row_get t_475 (by decide) rfl (by decide) (sh_5 _ _) rfl rfl (Nat.le_of_ble_eq_true rfl) d_DL_coast_93 ?_
    exact j_iret hx hq rfl d_DL_coast_96 (by first | (rw [eg_6, eg_5, eg_4, eg_3, eg_2, eg_1]; rw [eg_1] at zc26; exact (if_neg zc26).symm) | fail) (by first | (rw [eg_6, eg_5, eg_4, eg_3, eg_2, eg_1]; rw [eg_1] at zc26; exact (if_neg zc26).symm) | fail)
  · skip
    refine j_aload_n hx d_DL_coast_29 rfl 0 rfl ?_
    refine j_get hx ck_DL 0 (by decide) t_326 (by decide) (sh_0 _ _) rfl d_DL_coast_30 ?_
    refine j_callVi hx (c_Tape_answer hG s9_1) mo_Tape_answer mv_Tape_answer t_755 (by decide) rfl (by decide) (sh_1 _ _) rfl rfl (Nat.le_of_ble_eq_true rfl) d_DL_coast_33 ?_
    exact j_iret hx hq rfl d_DL_coast_36 (by first | (rw [eg_1] at zc26 ⊢; exact (if_pos zc26).symm) | fail) (by first | (rw [eg_1] at zc26 ⊢; exact (if_pos zc26).symm) | fail)

set_option maxRecDepth 20000 in
set_option maxHeartbeats 4000000 in
theorem c_DL_law {l : Launch} {G : Gz} (hG : zI G) (σ : St) (n : Int32) (h1 : ¬ n < 0) (h2 : n ≤ if σ 1 1 < 150 then σ 1 1 else 150) : MI l G y_DL_law prog_1_method_4_code 2 .int 90 [.ref (G.1 0), .int n] σ (xlV σ n) (xlS σ n) := by
  refine MI.of hG (by decide) (Nat.le_of_ble_eq_true rfl) (fun X hx hq => ?_)
  show J l G X 2 σ 0 [(0, .ref (G.1 0)), (1, .int n)] []
  refine j_aload_n hx d_DL_law_0 rfl 0 rfl ?_
  refine j_iload_n hx d_DL_law_1 rfl 1 rfl ?_
  refine j_sipush (v := 150) hx d_DL_law_2 (by decide) ?_
  refine j_callVv hx (c_DL_openText hG σ n 150 (by exact h1) (by exact h2)) mo_DL_openText mv_DL_openText t_557 (by decide) rfl (by decide) (sh_0 _ _) rfl rfl (Nat.le_of_ble_eq_true rfl) d_DL_law_5 ?_
  refine j_aload_n hx d_DL_law_8 rfl 0 rfl ?_
  refine j_get hx ck_DL 4 (by decide) t_330 (by decide) (sh_0 _ _) rfl d_DL_law_9 ?_
  refine j_aload_n hx d_DL_law_12 rfl 0 rfl ?_
  refine j_get hx ck_DL 0 (by decide) t_326 (by decide) (sh_0 _ _) rfl d_DL_law_13 ?_
  refine j_callVv hx (c_Law_readFrom hG (opn σ n)) mo_Law_readFrom mv_Law_readFrom t_791 (by decide) rfl (by decide) (sh_59 _ _) rfl rfl (Nat.le_of_ble_eq_true rfl) d_DL_law_16 ?_
  obtain ⟨s9_1, eg_1⟩ : ∃ z : St, z = xl1 σ n := ⟨_, rfl⟩
  refine J.to (σ' := s9_1) (by rw [eg_1]; first | done | rfl) rfl ?_
  refine j_aload_n hx d_DL_law_19 rfl 0 rfl ?_
  refine j_get hx ck_DL 0 (by decide) t_326 (by decide) (sh_0 _ _) rfl d_DL_law_20 ?_
  refine j_callVi hx (c_Tape_fine hG s9_1) mo_Tape_fine mv_Tape_fine t_754 (by decide) rfl (by decide) (sh_1 _ _) rfl rfl (Nat.le_of_ble_eq_true rfl) d_DL_law_23 ?_
  refine j_if_ne (tgt := 37) hx d_DL_law_26 (by decide) (fun zc26 => ?_) (fun zc26 => ?_)
  · skip
    refine j_aload_n hx d_DL_law_37 rfl 0 rfl ?_
    refine j_get hx ck_DL 3 (by decide) t_329 (by decide) (sh_0 _ _) rfl d_DL_law_38 ?_
    refine j_aload_n hx d_DL_law_41 rfl 0 rfl ?_
    refine j_get hx ck_DL 4 (by decide) t_330 (by decide) (sh_0 _ _) rfl d_DL_law_42 ?_
    refine j_callVv hx (c_Law_become hG isLaw_50 isLaw_59 s9_1) mo_Law_become mv_Law_become t_819 (by decide) rfl (by decide) (sh_50 _ _) rfl rfl (Nat.le_of_ble_eq_true rfl) d_DL_law_45 ?_
    refine j_iconst (v := 1) hx d_DL_law_48 (by decide) ?_
    exact j_iret hx hq rfl d_DL_law_49 (by first | (rw [eg_1] at zc26; exact (if_neg zc26).symm) | fail) (by first | (rw [eg_1] at zc26 ⊢; exact (if_neg zc26).symm) | fail)
  · skip
    refine j_aload_n hx d_DL_law_29 rfl 0 rfl ?_
    refine j_get hx ck_DL 0 (by decide) t_326 (by decide) (sh_0 _ _) rfl d_DL_law_30 ?_
    refine j_callVi hx (c_Tape_answer hG s9_1) mo_Tape_answer mv_Tape_answer t_755 (by decide) rfl (by decide) (sh_1 _ _) rfl rfl (Nat.le_of_ble_eq_true rfl) d_DL_law_33 ?_
    exact j_iret hx hq rfl d_DL_law_36 (by first | (rw [eg_1] at zc26 ⊢; exact (if_pos zc26).symm) | fail) (by first | (rw [eg_1] at zc26 ⊢; exact (if_pos zc26).symm) | fail)

set_option maxRecDepth 20000 in
set_option maxHeartbeats 4000000 in
theorem c_DL_log {l : Launch} {G : Gz} (hG : zI G) (σ : St) (n : Int32) (h1 : ¬ n < 0) (h2 : n ≤ if σ 1 1 < 100 then σ 1 1 else 100) : MI l G y_DL_log prog_1_method_6_code 2 .int 40 [.ref (G.1 0), .int n] σ (xgV σ n) (xgS σ n) := by
  refine MI.of hG (by decide) (Nat.le_of_ble_eq_true rfl) (fun X hx hq => ?_)
  show J l G X 2 σ 0 [(0, .ref (G.1 0)), (1, .int n)] []
  refine j_aload_n hx d_DL_log_0 rfl 0 rfl ?_
  refine j_iload_n hx d_DL_log_1 rfl 1 rfl ?_
  refine j_bipush (v := 100) hx d_DL_log_2 (by decide) ?_
  refine j_callVv hx (c_DL_openText hG σ n 100 (by exact h1) (by exact h2)) mo_DL_openText mv_DL_openText t_557 (by decide) rfl (by decide) (sh_0 _ _) rfl rfl (Nat.le_of_ble_eq_true rfl) d_DL_log_4 ?_
  refine j_aload_n hx d_DL_log_7 rfl 0 rfl ?_
  refine j_get hx ck_DL 6 (by decide) t_332 (by decide) (sh_0 _ _) rfl d_DL_log_8 ?_
  refine j_aload_n hx d_DL_log_11 rfl 0 rfl ?_
  refine j_get hx ck_DL 0 (by decide) t_326 (by decide) (sh_0 _ _) rfl d_DL_log_12 ?_
  refine j_callVv hx (c_FlashLog_readFrom hG (opn σ n)) mo_FlashLog_readFrom mv_FlashLog_readFrom t_942 (by decide) rfl (by decide) (sh_71 _ _) rfl rfl (Nat.le_of_ble_eq_true rfl) d_DL_log_15 ?_
  obtain ⟨s9_1, eg_1⟩ : ∃ z : St, z = xg1 σ n := ⟨_, rfl⟩
  refine J.to (σ' := s9_1) (by rw [eg_1]; first | done | rfl) rfl ?_
  refine j_aload_n hx d_DL_log_18 rfl 0 rfl ?_
  refine j_get hx ck_DL 0 (by decide) t_326 (by decide) (sh_0 _ _) rfl d_DL_log_19 ?_
  refine j_callVi hx (c_Tape_fine hG s9_1) mo_Tape_fine mv_Tape_fine t_754 (by decide) rfl (by decide) (sh_1 _ _) rfl rfl (Nat.le_of_ble_eq_true rfl) d_DL_log_22 ?_
  refine j_if_ne (tgt := 36) hx d_DL_log_25 (by decide) (fun zc25 => ?_) (fun zc25 => ?_)
  · skip
    refine j_aload_n hx d_DL_log_36 rfl 0 rfl ?_
    refine j_get hx ck_DL 5 (by decide) t_331 (by decide) (sh_0 _ _) rfl d_DL_log_37 ?_
    refine j_aload_n hx d_DL_log_40 rfl 0 rfl ?_
    refine j_get hx ck_DL 6 (by decide) t_332 (by decide) (sh_0 _ _) rfl d_DL_log_41 ?_
    refine j_callVv hx (c_FlashLog_become hG isLog_68 isLog_71 s9_1) mo_FlashLog_become mv_FlashLog_become t_959 (by decide) rfl (by decide) (sh_68 _ _) rfl rfl (Nat.le_of_ble_eq_true rfl) d_DL_log_44 ?_
    obtain ⟨s9_2, eg_2⟩ : ∃ z : St, z = xg2 s9_1 := ⟨_, rfl⟩
    refine J.to (σ' := s9_2) (by rw [eg_2]; first | done | rfl) rfl ?_
    refine j_aload_n hx d_DL_log_47 rfl 0 rfl ?_
    refine j_get hx ck_DL 5 (by decide) t_331 (by decide) (sh_0 _ _) rfl d_DL_log_48 ?_
    refine j_callVi hx (c_FlashLog_lines hG isLog_68 s9_2) mo_FlashLog_lines mv_FlashLog_lines t_964 (by decide) rfl (by decide) (sh_68 _ _) rfl rfl (Nat.le_of_ble_eq_true rfl) d_DL_log_51 ?_
    exact j_iret hx hq rfl d_DL_log_54 (by first | (rw [eg_2, eg_1]; rw [eg_1] at zc25; exact (if_neg zc25).symm) | fail) (by first | (rw [eg_2, eg_1]; rw [eg_1] at zc25; exact (if_neg zc25).symm) | fail)
  · skip
    refine j_aload_n hx d_DL_log_28 rfl 0 rfl ?_
    refine j_get hx ck_DL 0 (by decide) t_326 (by decide) (sh_0 _ _) rfl d_DL_log_29 ?_
    refine j_callVi hx (c_Tape_answer hG s9_1) mo_Tape_answer mv_Tape_answer t_755 (by decide) rfl (by decide) (sh_1 _ _) rfl rfl (Nat.le_of_ble_eq_true rfl) d_DL_log_32 ?_
    exact j_iret hx hq rfl d_DL_log_35 (by first | (rw [eg_1] at zc25 ⊢; exact (if_pos zc25).symm) | fail) (by first | (rw [eg_1] at zc25 ⊢; exact (if_pos zc25).symm) | fail)

