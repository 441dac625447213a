
set_option maxRecDepth 20000 in
set_option maxHeartbeats 4000000 in
theorem c_DL_told {l : Launch} {G : Gz} (hG : zI G) (σ : St) (w : Int32) (a0 : ¬ w < 0) (b0 : w ≤ 12) : MI l G y_DL_told prog_1_method_9_code 2 .int 6 [.ref (G.1 0), .int w] σ (if 4 < w then (if w = 11 then σ 68 1 else if w = 12 then σ 0 14 else rg (σ 83) 29 (0 + w - 5)) else rg (σ 6) 6 w) σ := by
  refine MI.of hG (by decide) (Nat.le_of_ble_eq_true rfl) (fun X hx hq => ?_)
  show J l G X 2 σ 0 [(0, .ref (G.1 0)), (1, .int w)] []
  refine j_aload_n hx d_DL_told_0 rfl 0 rfl ?_
  refine j_iload_n hx d_DL_told_1 rfl 1 rfl ?_
  refine j_iconst (v := 0) hx d_DL_told_2 (by decide) ?_
  refine j_bipush (v := 12) hx d_DL_told_3 (by decide) ?_
  refine j_callVv hx (c_DL_needWithin hG σ w 0 12 (by exact a0) (by exact b0)) mo_DL_needWithin mv_DL_needWithin t_562 (by decide) rfl (by decide) (sh_0 _ _) rfl rfl (Nat.le_of_ble_eq_true rfl) d_DL_told_5 ?_
  refine j_iload_n hx d_DL_told_8 rfl 1 rfl ?_
  refine j_iconst (v := 4) hx d_DL_told_9 (by decide) ?_
  refine j_icmp_gt (tgt := 25) hx d_DL_told_10 (by decide) (fun zc10 => ?_) (fun zc10 => ?_)
  · skip
    refine j_iload_n hx d_DL_told_25 rfl 1 rfl ?_
    refine j_bipush (v := 11) hx d_DL_told_26 (by decide) ?_
    refine j_icmp_ne (tgt := 39) hx d_DL_told_28 (by decide) (fun zc28 => ?_) (fun zc28 => ?_)
    · skip
      refine j_iload_n hx d_DL_told_39 rfl 1 rfl ?_
      refine j_bipush (v := 12) hx d_DL_told_40 (by decide) ?_
      refine j_icmp_ne (tgt := 52) hx d_DL_told_42 (by decide) (fun zc42 => ?_) (fun zc42 => ?_)
      · skip
        refine j_aload_n hx d_DL_told_52 rfl 0 rfl ?_
        refine j_get hx ck_DL 8 (by decide) t_334 (by decide) (sh_0 _ _) rfl d_DL_told_53 ?_
        refine j_iconst (v := 0) hx d_DL_told_56 (by decide) ?_
        refine j_iload_n hx d_DL_told_57 rfl 1 rfl ?_
        refine j_iadd hx d_DL_told_58 ?_
        refine j_iconst (v := 5) hx d_DL_told_59 (by decide) ?_
        refine j_isub hx d_DL_told_60 ?_
        refine j_callVi hx (c_Nights_get hG isNights_81 σ ((0 + w) - 5)) mo_Nights_get mv_Nights_get t_975 (by decide) rfl (by decide) (sh_81 _ _) rfl rfl (Nat.le_of_ble_eq_true rfl) d_DL_told_61 ?_
        exact j_iret hx hq rfl d_DL_told_64 (by first | (first | exact (if_neg zc10).symm | (rw [if_pos zc10]; first | exact (if_pos zc28).symm | (rw [if_neg zc28]; first | exact (if_pos zc42).symm | exact (if_neg zc42).symm))) | fail) (by first | (first | rfl | (simp [zc10, zc28, zc42]; done)) | fail)
      · skip
        refine j_aload_n hx d_DL_told_45 rfl 0 rfl ?_
        refine j_get hx ck_DL 14 (by decide) t_340 (by decide) (sh_0 _ _) rfl d_DL_told_46 ?_
        refine j_goto (tgt := 64) hx d_DL_told_49 (by decide) ?_
        exact j_iret hx hq rfl d_DL_told_64 (by first | (first | exact (if_neg zc10).symm | (rw [if_pos zc10]; first | exact (if_pos zc28).symm | (rw [if_neg zc28]; first | exact (if_pos zc42).symm | exact (if_neg zc42).symm))) | fail) (by first | (first | rfl | (simp [zc10, zc28, zc42]; done)) | fail)
    · skip
      refine j_aload_n hx d_DL_told_31 rfl 0 rfl ?_
      refine j_get hx ck_DL 5 (by decide) t_331 (by decide) (sh_0 _ _) rfl d_DL_told_32 ?_
      refine j_callVi hx (c_FlashLog_lines hG isLog_68 σ) mo_FlashLog_lines mv_FlashLog_lines t_964 (by decide) rfl (by decide) (sh_68 _ _) rfl rfl (Nat.le_of_ble_eq_true rfl) d_DL_told_35 ?_
      exact j_iret hx hq rfl d_DL_told_38 (by first | (first | exact (if_neg zc10).symm | (rw [if_pos zc10]; first | exact (if_pos zc28).symm | (rw [if_neg zc28]; first | exact (if_pos zc42).symm | exact (if_neg zc42).symm))) | fail) (by first | (first | rfl | (simp [zc10, zc28]; done)) | fail)
  · skip
    refine j_aload_n hx d_DL_told_13 rfl 0 rfl ?_
    refine j_get hx ck_DL 1 (by decide) t_327 (by decide) (sh_0 _ _) rfl d_DL_told_14 ?_
    refine j_get hx ck_Coast 0 (by decide) t_85 (by decide) (sh_4 _ _) rfl d_DL_told_17 ?_
    refine j_iload_n hx d_DL_told_20 rfl 1 rfl ?_
    refine j_callVi hx (c_Row_getA hG ir_5 6 rfl σ w) mo_Row_get mv_Row_get t_475 (by decide) rfl (by decide) (sh_5 _ _) rfl rfl (Nat.le_of_ble_eq_true rfl) d_DL_told_21 ?_
    exact j_iret hx hq rfl d_DL_told_24 (by first | (first | exact (if_neg zc10).symm | (rw [if_pos zc10]; first | exact (if_pos zc28).symm | (rw [if_neg zc28]; first | exact (if_pos zc42).symm | exact (if_neg zc42).symm))) | fail) (by first | (first | rfl | (simp [zc10]; done)) | fail)

set_option maxRecDepth 20000 in
set_option maxHeartbeats 4000000 in
theorem c_DL_cell {l : Launch} {G : Gz} (hG : zI G) (σ : St) (c : Int32) (w : Int32) (a0 : ¬ c < 0) (b0 : c < rg (σ 6) 6 0) (a1 : ¬ w < 0) (b1 : w ≤ 3) : MI l G y_DL_cell prog_1_method_10_code 3 .int 6 [.ref (G.1 0), .int c, .int w] σ (if w = 0 then rg (σ 8) 12 c else if w = 1 then sm (fun l => b2 (liP σ 81 c l)) (ct (cM σ 1)) else if w = 2 then sm (fun d => b2 (rg (σ 83) 29 (8 + nI d) = c)) (ct (cM σ 2)) else rg (σ 83) 29 (17 + c)) σ := by
  refine MI.of hG (by decide) (Nat.le_of_ble_eq_true rfl) (fun X hx hq => ?_)
  show J l G X 3 σ 0 [(0, .ref (G.1 0)), (1, .int c), (2, .int w)] []
  refine j_aload_n hx d_DL_cell_0 rfl 0 rfl ?_
  refine j_iconst (v := 0) hx d_DL_cell_1 (by decide) ?_
  refine j_iload_n hx d_DL_cell_2 rfl 1 rfl ?_
  refine j_callVv hx (c_DL_needThere hG σ 0 c (by exact a0) (by exact b0)) mo_DL_needThere mv_DL_needThere t_984 (by decide) rfl (by decide) (sh_0 _ _) rfl rfl (Nat.le_of_ble_eq_true rfl) d_DL_cell_3 ?_
  refine j_aload_n hx d_DL_cell_6 rfl 0 rfl ?_
  refine j_iload_n hx d_DL_cell_7 rfl 2 rfl ?_
  refine j_iconst (v := 0) hx d_DL_cell_8 (by decide) ?_
  refine j_iconst (v := 3) hx d_DL_cell_9 (by decide) ?_
  refine j_callVv hx (c_DL_needWithin hG σ w 0 3 (by exact a1) (by exact b1)) mo_DL_needWithin mv_DL_needWithin t_562 (by decide) rfl (by decide) (sh_0 _ _) rfl rfl (Nat.le_of_ble_eq_true rfl) d_DL_cell_10 ?_
  refine j_iload_n hx d_DL_cell_13 rfl 2 rfl ?_
  refine J.sw (x := w) 0 (fun zc14_0 => ?_) (fun zc14_0 => ?_)
  · skip
    refine j_tableIn (x := w) (tgt := 40) (off := 26) hx d_DL_cell_14 (by rw [zc14_0]; decide) (by rw [zc14_0]; decide) (by rw [zc14_0]; decide) (by decide) ?_
    refine j_aload_n hx d_DL_cell_40 rfl 0 rfl ?_
    refine j_get hx ck_DL 1 (by decide) t_327 (by decide) (sh_0 _ _) rfl d_DL_cell_41 ?_
    refine j_get hx ck_Coast 1 (by decide) t_90 (by decide) (sh_4 _ _) rfl d_DL_cell_44 ?_
    refine j_iload_n hx d_DL_cell_47 rfl 1 rfl ?_
    refine j_callVi hx (c_Row_getA hG ir_7 8 rfl σ c) mo_Row_get mv_Row_get t_475 (by decide) rfl (by decide) (sh_7 _ _) rfl rfl (Nat.le_of_ble_eq_true rfl) d_DL_cell_48 ?_
    exact j_iret hx hq rfl d_DL_cell_51 (by first | (exact (if_pos zc14_0).symm) | fail) (by first | (first | rfl | (simp [zc14_0]; done)) | fail)
  refine J.sw (x := w) 1 (fun zc14_1 => ?_) (fun zc14_1 => ?_)
  · skip
    refine j_tableIn (x := w) (tgt := 52) (off := 38) hx d_DL_cell_14 (by rw [zc14_1]; decide) (by rw [zc14_1]; decide) (by rw [zc14_1]; decide) (by decide) ?_
    refine j_aload_n hx d_DL_cell_52 rfl 0 rfl ?_
    refine j_get hx ck_DL 8 (by decide) t_334 (by decide) (sh_0 _ _) rfl d_DL_cell_53 ?_
    refine j_aload_n hx d_DL_cell_56 rfl 0 rfl ?_
    refine j_get hx ck_DL 1 (by decide) t_327 (by decide) (sh_0 _ _) rfl d_DL_cell_57 ?_
    refine j_iload_n hx d_DL_cell_60 rfl 1 rfl ?_
    refine j_callVi hx (c_Nights_lightsIn hG isNights_81 σ c) mo_Nights_lightsIn mv_Nights_lightsIn t_1004 (by decide) rfl (by decide) (sh_81 _ _) rfl rfl (Nat.le_of_ble_eq_true rfl) d_DL_cell_61 ?_
    exact j_iret hx hq rfl d_DL_cell_64 (by first | (rw [if_neg zc14_0]; exact (if_pos zc14_1).symm) | fail) (by first | (first | rfl | (simp [zc14_0, zc14_1]; done)) | fail)
  refine J.sw (x := w) 2 (fun zc14_2 => ?_) (fun zc14_2 => ?_)
  · skip
    refine j_tableIn (x := w) (tgt := 65) (off := 51) hx d_DL_cell_14 (by rw [zc14_2]; decide) (by rw [zc14_2]; decide) (by rw [zc14_2]; decide) (by decide) ?_
    refine j_aload_n hx d_DL_cell_65 rfl 0 rfl ?_
    refine j_get hx ck_DL 8 (by decide) t_334 (by decide) (sh_0 _ _) rfl d_DL_cell_66 ?_
    refine j_aload_n hx d_DL_cell_69 rfl 0 rfl ?_
    refine j_get hx ck_DL 1 (by decide) t_327 (by decide) (sh_0 _ _) rfl d_DL_cell_70 ?_
    refine j_iload_n hx d_DL_cell_73 rfl 1 rfl ?_
    refine j_callVi hx (c_Nights_donkeysIn hG isNights_81 σ c) mo_Nights_donkeysIn mv_Nights_donkeysIn t_1008 (by decide) rfl (by decide) (sh_81 _ _) rfl rfl (Nat.le_of_ble_eq_true rfl) d_DL_cell_74 ?_
    exact j_iret hx hq rfl d_DL_cell_77 (by first | (rw [if_neg zc14_0, if_neg zc14_1]; exact (if_pos zc14_2).symm) | fail) (by first | (first | rfl | (simp [zc14_0, zc14_1, zc14_2]; done)) | fail)
  refine j_tableOut (x := w) (tgt := 78) hx d_DL_cell_14 (by have h0 := sw_ne zc14_0; have h1 := sw_ne zc14_1; have h2 := sw_ne zc14_2; have q0 : Int32.toInt 0 = 0 := rfl; have q1 : Int32.toInt 1 = 1 := rfl; have q2 : Int32.toInt 2 = 2 := rfl; omega) (by decide) ?_
  refine j_aload_n hx d_DL_cell_78 rfl 0 rfl ?_
  refine j_get hx ck_DL 8 (by decide) t_334 (by decide) (sh_0 _ _) rfl d_DL_cell_79 ?_
  refine j_bipush (v := 17) hx d_DL_cell_82 (by decide) ?_
  refine j_iload_n hx d_DL_cell_84 rfl 1 rfl ?_
  refine j_iadd hx d_DL_cell_85 ?_
  refine j_callVi hx (c_Nights_get hG isNights_81 σ (17 + c)) mo_Nights_get mv_Nights_get t_975 (by decide) rfl (by decide) (sh_81 _ _) rfl rfl (Nat.le_of_ble_eq_true rfl) d_DL_cell_86 ?_
  exact j_iret hx hq rfl d_DL_cell_89 (by first | (rw [if_neg zc14_0, if_neg zc14_1]; exact (if_neg zc14_2).symm) | fail) (by first | (first | rfl | (simp [zc14_0, zc14_1, zc14_2]; done)) | fail)

set_option maxRecDepth 20000 in
set_option maxHeartbeats 4000000 in
theorem c_DL_donkey {l : Launch} {G : Gz} (hG : zI G) (σ : St) (d : Int32) (w : Int32) (a0 : ¬ d < 0) (b0 : d < rg (σ 6) 6 2) (a1 : ¬ w < 0) (b1 : w ≤ 1) : MI l G y_DL_donkey prog_1_method_12_code 3 .int 6 [.ref (G.1 0), .int d, .int w] σ (if w = 0 then rg (σ 83) 29 (8 + d) else rg (σ 16) 3 d) σ := by
  refine MI.of hG (by decide) (Nat.le_of_ble_eq_true rfl) (fun X hx hq => ?_)
  show J l G X 3 σ 0 [(0, .ref (G.1 0)), (1, .int d), (2, .int w)] []
  refine j_aload_n hx d_DL_donkey_0 rfl 0 rfl ?_
  refine j_iconst (v := 2) hx d_DL_donkey_1 (by decide) ?_
  refine j_iload_n hx d_DL_donkey_2 rfl 1 rfl ?_
  refine j_callVv hx (c_DL_needThere hG σ 2 d (by exact a0) (by exact b0)) mo_DL_needThere mv_DL_needThere t_984 (by decide) rfl (by decide) (sh_0 _ _) rfl rfl (Nat.le_of_ble_eq_true rfl) d_DL_donkey_3 ?_
  refine j_aload_n hx d_DL_donkey_6 rfl 0 rfl ?_
  refine j_iload_n hx d_DL_donkey_7 rfl 2 rfl ?_
  refine j_iconst (v := 0) hx d_DL_donkey_8 (by decide) ?_
  refine j_iconst (v := 1) hx d_DL_donkey_9 (by decide) ?_
  refine j_callVv hx (c_DL_needWithin hG σ w 0 1 (by exact a1) (by exact b1)) mo_DL_needWithin mv_DL_needWithin t_562 (by decide) rfl (by decide) (sh_0 _ _) rfl rfl (Nat.le_of_ble_eq_true rfl) d_DL_donkey_10 ?_
  refine j_iload_n hx d_DL_donkey_13 rfl 2 rfl ?_
  refine j_if_ne (tgt := 31) hx d_DL_donkey_14 (by decide) (fun zc14 => ?_) (fun zc14 => ?_)
  · skip
    refine j_aload_n hx d_DL_donkey_31 rfl 0 rfl ?_
    refine j_get hx ck_DL 1 (by decide) t_327 (by decide) (sh_0 _ _) rfl d_DL_donkey_32 ?_
    refine j_get hx ck_Coast 5 (by decide) t_101 (by decide) (sh_4 _ _) rfl d_DL_donkey_35 ?_
    refine j_iload_n hx d_DL_donkey_38 rfl 1 rfl ?_
    refine j_callVi hx (c_Row_getA hG ir_15 16 rfl σ d) mo_Row_get mv_Row_get t_475 (by decide) rfl (by decide) (sh_15 _ _) rfl rfl (Nat.le_of_ble_eq_true rfl) d_DL_donkey_39 ?_
    exact j_iret hx hq rfl d_DL_donkey_42 (by first | (first | exact (if_pos zc14).symm | exact (if_neg zc14).symm) | fail) (by first | (first | rfl | (simp [zc14]; done)) | fail)
  · skip
    refine j_aload_n hx d_DL_donkey_17 rfl 0 rfl ?_
    refine j_get hx ck_DL 8 (by decide) t_334 (by decide) (sh_0 _ _) rfl d_DL_donkey_18 ?_
    refine j_bipush (v := 8) hx d_DL_donkey_21 (by decide) ?_
    refine j_iload_n hx d_DL_donkey_23 rfl 1 rfl ?_
    refine j_iadd hx d_DL_donkey_24 ?_
    refine j_callVi hx (c_Nights_get hG isNights_81 σ (8 + d)) mo_Nights_get mv_Nights_get t_975 (by decide) rfl (by decide) (sh_81 _ _) rfl rfl (Nat.le_of_ble_eq_true rfl) d_DL_donkey_25 ?_
    refine j_goto (tgt := 42) hx d_DL_donkey_28 (by decide) ?_
    exact j_iret hx hq rfl d_DL_donkey_42 (by first | (first | exact (if_pos zc14).symm | exact (if_neg zc14).symm) | fail) (by first | (first | rfl | (simp [zc14]; done)) | fail)

set_option maxRecDepth 20000 in
set_option maxHeartbeats 4000000 in
theorem c_DL_light {l : Launch} {G : Gz} (hG : zI G) (σ : St) (j : Int32) (w : Int32) (a0 : ¬ j < 0) (b0 : j < rg (σ 6) 6 1) (a1 : ¬ w < 0) (b1 : w ≤ 2) : MI l G y_DL_light prog_1_method_11_code 3 .int 6 [.ref (G.1 0), .int j, .int w] σ (if w = 2 then b2 (hB (rg (σ 83) 29 6) j) else if w = 0 then rg (σ 10) 6 j else rg (σ 12) 6 j) σ := by
  refine MI.of hG (by decide) (Nat.le_of_ble_eq_true rfl) (fun X hx hq => ?_)
  show J l G X 3 σ 0 [(0, .ref (G.1 0)), (1, .int j), (2, .int w)] []
  refine j_aload_n hx d_DL_light_0 rfl 0 rfl ?_
  refine j_iconst (v := 1) hx d_DL_light_1 (by decide) ?_
  refine j_iload_n hx d_DL_light_2 rfl 1 rfl ?_
  refine j_callVv hx (c_DL_needThere hG σ 1 j (by exact a0) (by exact b0)) mo_DL_needThere mv_DL_needThere t_984 (by decide) rfl (by decide) (sh_0 _ _) rfl rfl (Nat.le_of_ble_eq_true rfl) d_DL_light_3 ?_
  refine j_aload_n hx d_DL_light_6 rfl 0 rfl ?_
  refine j_iload_n hx d_DL_light_7 rfl 2 rfl ?_
  refine j_iconst (v := 0) hx d_DL_light_8 (by decide) ?_
  refine j_iconst (v := 2) hx d_DL_light_9 (by decide) ?_
  refine j_callVv hx (c_DL_needWithin hG σ w 0 2 (by exact a1) (by exact b1)) mo_DL_needWithin mv_DL_needWithin t_562 (by decide) rfl (by decide) (sh_0 _ _) rfl rfl (Nat.le_of_ble_eq_true rfl) d_DL_light_10 ?_
  refine j_iload_n hx d_DL_light_13 rfl 2 rfl ?_
  refine j_iconst (v := 2) hx d_DL_light_14 (by decide) ?_
  refine j_icmp_ne (tgt := 35) hx d_DL_light_15 (by decide) (fun zc15 => ?_) (fun zc15 => ?_)
  · skip
    refine j_iload_n hx d_DL_light_35 rfl 2 rfl ?_
    refine j_if_ne (tgt := 53) hx d_DL_light_36 (by decide) (fun zc36 => ?_) (fun zc36 => ?_)
    · skip
      refine j_aload_n hx d_DL_light_53 rfl 0 rfl ?_
      refine j_get hx ck_DL 1 (by decide) t_327 (by decide) (sh_0 _ _) rfl d_DL_light_54 ?_
      refine j_get hx ck_Coast 3 (by decide) t_95 (by decide) (sh_4 _ _) rfl d_DL_light_57 ?_
      refine j_iload_n hx d_DL_light_60 rfl 1 rfl ?_
      refine j_callVi hx (c_Row_getA hG ir_11 12 rfl σ j) mo_Row_get mv_Row_get t_475 (by decide) rfl (by decide) (sh_11 _ _) rfl rfl (Nat.le_of_ble_eq_true rfl) d_DL_light_61 ?_
      exact j_iret hx hq rfl d_DL_light_64 (by first | (first | (rw [if_neg zc15]; first | exact (if_pos zc36).symm | exact (if_neg zc36).symm) | (rw [if_pos zc15]; first | exact zc26.symm | exact (b2_n0 zc26).symm)) | fail) (by first | (first | rfl | (simp [zc15, zc36]; done)) | fail)
    · skip
      refine j_aload_n hx d_DL_light_39 rfl 0 rfl ?_
      refine j_get hx ck_DL 1 (by decide) t_327 (by decide) (sh_0 _ _) rfl d_DL_light_40 ?_
      refine j_get hx ck_Coast 2 (by decide) t_92 (by decide) (sh_4 _ _) rfl d_DL_light_43 ?_
      refine j_iload_n hx d_DL_light_46 rfl 1 rfl ?_
      refine j_callVi hx (c_Row_getA hG ir_9 10 rfl σ j) mo_Row_get mv_Row_get t_475 (by decide) rfl (by decide) (sh_9 _ _) rfl rfl (Nat.le_of_ble_eq_true rfl) d_DL_light_47 ?_
      refine j_goto (tgt := 64) hx d_DL_light_50 (by decide) ?_
      exact j_iret hx hq rfl d_DL_light_64 (by first | (first | (rw [if_neg zc15]; first | exact (if_pos zc36).symm | exact (if_neg zc36).symm) | (rw [if_pos zc15]; first | exact zc26.symm | exact (b2_n0 zc26).symm)) | fail) (by first | (first | rfl | (simp [zc15, zc36]; done)) | fail)
  · skip
    refine j_aload_n hx d_DL_light_18 rfl 0 rfl ?_
    refine j_get hx ck_DL 8 (by decide) t_334 (by decide) (sh_0 _ _) rfl d_DL_light_19 ?_
    refine j_iload_n hx d_DL_light_22 rfl 1 rfl ?_
    refine j_callVi hx (c_Nights_burns hG isNights_81 σ j) mo_Nights_burns mv_Nights_burns t_1019 (by decide) rfl (by decide) (sh_81 _ _) rfl rfl (Nat.le_of_ble_eq_true rfl) d_DL_light_23 ?_
    refine j_if_eq (tgt := 33) hx d_DL_light_26 (by decide) (fun zc26 => ?_) (fun zc26 => ?_)
    · skip
      refine j_iconst (v := 0) hx d_DL_light_33 (by decide) ?_
      exact j_iret hx hq rfl d_DL_light_34 (by first | (first | (rw [if_neg zc15]; first | exact (if_pos zc36).symm | exact (if_neg zc36).symm) | (rw [if_pos zc15]; first | exact zc26.symm | exact (b2_n0 zc26).symm)) | fail) (by first | (first | rfl | (simp [zc15, zc26]; done)) | fail)
    · skip
      refine j_iconst (v := 1) hx d_DL_light_29 (by decide) ?_
      refine j_goto (tgt := 34) hx d_DL_light_30 (by decide) ?_
      exact j_iret hx hq rfl d_DL_light_34 (by first | (first | (rw [if_neg zc15]; first | exact (if_pos zc36).symm | exact (if_neg zc36).symm) | (rw [if_pos zc15]; first | exact zc26.symm | exact (b2_n0 zc26).symm)) | fail) (by first | (first | rfl | (simp [zc15, zc26]; done)) | fail)

set_option maxRecDepth 20000 in
set_option maxHeartbeats 4000000 in
theorem c_DL_ship {l : Launch} {G : Gz} (hG : zI G) (σ : St) (j : Int32) (w : Int32) (a0 : ¬ j < 0) (b0 : j < rg (σ 6) 6 3) (a1 : ¬ w < 0) (b1 : w ≤ 5) : MI l G y_DL_ship prog_1_method_13_code 3 .int 6 [.ref (G.1 0), .int j, .int w] σ (if w = 4 then b2 (hB (rg (σ 83) 29 7) j) else if w = 5 then rg (σ 83) 29 (11 + j) else shn σ j w) σ := by
  refine MI.of hG (by decide) (Nat.le_of_ble_eq_true rfl) (fun X hx hq => ?_)
  show J l G X 3 σ 0 [(0, .ref (G.1 0)), (1, .int j), (2, .int w)] []
  refine j_aload_n hx d_DL_ship_0 rfl 0 rfl ?_
  refine j_iconst (v := 3) hx d_DL_ship_1 (by decide) ?_
  refine j_iload_n hx d_DL_ship_2 rfl 1 rfl ?_
  refine j_callVv hx (c_DL_needThere hG σ 3 j (by exact a0) (by exact b0)) mo_DL_needThere mv_DL_needThere t_984 (by decide) rfl (by decide) (sh_0 _ _) rfl rfl (Nat.le_of_ble_eq_true rfl) d_DL_ship_3 ?_
  refine j_aload_n hx d_DL_ship_6 rfl 0 rfl ?_
  refine j_iload_n hx d_DL_ship_7 rfl 2 rfl ?_
  refine j_iconst (v := 0) hx d_DL_ship_8 (by decide) ?_
  refine j_iconst (v := 5) hx d_DL_ship_9 (by decide) ?_
  refine j_callVv hx (c_DL_needWithin hG σ w 0 5 (by exact a1) (by exact b1)) mo_DL_needWithin mv_DL_needWithin t_562 (by decide) rfl (by decide) (sh_0 _ _) rfl rfl (Nat.le_of_ble_eq_true rfl) d_DL_ship_10 ?_
  refine j_iload_n hx d_DL_ship_13 rfl 2 rfl ?_
  refine j_iconst (v := 4) hx d_DL_ship_14 (by decide) ?_
  refine j_icmp_ne (tgt := 35) hx d_DL_ship_15 (by decide) (fun zc15 => ?_) (fun zc15 => ?_)
  · skip
    refine j_iload_n hx d_DL_ship_35 rfl 2 rfl ?_
    refine j_iconst (v := 5) hx d_DL_ship_36 (by decide) ?_
    refine j_icmp_ne (tgt := 54) hx d_DL_ship_37 (by decide) (fun zc37 => ?_) (fun zc37 => ?_)
    · skip
      refine j_aload_n hx d_DL_ship_54 rfl 0 rfl ?_
      refine j_get hx ck_DL 1 (by decide) t_327 (by decide) (sh_0 _ _) rfl d_DL_ship_55 ?_
      refine j_iload_n hx d_DL_ship_58 rfl 1 rfl ?_
      refine j_iload_n hx d_DL_ship_59 rfl 2 rfl ?_
      refine j_callVi hx (c_Coast_shipNumber hG σ j w) mo_Coast_shipNumber mv_Coast_shipNumber t_1035 (by decide) rfl (by decide) (sh_4 _ _) rfl rfl (Nat.le_of_ble_eq_true rfl) d_DL_ship_60 ?_
      exact j_iret hx hq rfl d_DL_ship_63 (by first | (first | (rw [if_neg zc15]; first | exact (if_pos zc37).symm | exact (if_neg zc37).symm) | (rw [if_pos zc15]; first | exact zc26.symm | exact (b2_n0 zc26).symm)) | fail) (by first | (first | rfl | (simp [zc15, zc37]; done)) | fail)
    · skip
      refine j_aload_n hx d_DL_ship_40 rfl 0 rfl ?_
      refine j_get hx ck_DL 8 (by decide) t_334 (by decide) (sh_0 _ _) rfl d_DL_ship_41 ?_
      refine j_bipush (v := 11) hx d_DL_ship_44 (by decide) ?_
      refine j_iload_n hx d_DL_ship_46 rfl 1 rfl ?_
      refine j_iadd hx d_DL_ship_47 ?_
      refine j_callVi hx (c_Nights_get hG isNights_81 σ (11 + j)) mo_Nights_get mv_Nights_get t_975 (by decide) rfl (by decide) (sh_81 _ _) rfl rfl (Nat.le_of_ble_eq_true rfl) d_DL_ship_48 ?_
      refine j_goto (tgt := 63) hx d_DL_ship_51 (by decide) ?_
      exact j_iret hx hq rfl d_DL_ship_63 (by first | (first | (rw [if_neg zc15]; first | exact (if_pos zc37).symm | exact (if_neg zc37).symm) | (rw [if_pos zc15]; first | exact zc26.symm | exact (b2_n0 zc26).symm)) | fail) (by first | (first | rfl | (simp [zc15, zc37]; done)) | fail)
  · skip
    refine j_aload_n hx d_DL_ship_18 rfl 0 rfl ?_
    refine j_get hx ck_DL 8 (by decide) t_334 (by decide) (sh_0 _ _) rfl d_DL_ship_19 ?_
    refine j_iload_n hx d_DL_ship_22 rfl 1 rfl ?_
    refine j_callVi hx (c_Nights_passed hG isNights_81 σ j) mo_Nights_passed mv_Nights_passed t_1034 (by decide) rfl (by decide) (sh_81 _ _) rfl rfl (Nat.le_of_ble_eq_true rfl) d_DL_ship_23 ?_
    refine j_if_eq (tgt := 33) hx d_DL_ship_26 (by decide) (fun zc26 => ?_) (fun zc26 => ?_)
    · skip
      refine j_iconst (v := 0) hx d_DL_ship_33 (by decide) ?_
      exact j_iret hx hq rfl d_DL_ship_34 (by first | (first | (rw [if_neg zc15]; first | exact (if_pos zc37).symm | exact (if_neg zc37).symm) | (rw [if_pos zc15]; first | exact zc26.symm | exact (b2_n0 zc26).symm)) | fail) (by first | (first | rfl | (simp [zc15, zc26]; done)) | fail)
    · skip
      refine j_iconst (v := 1) hx d_DL_ship_29 (by decide) ?_
      refine j_goto (tgt := 34) hx d_DL_ship_30 (by decide) ?_
      exact j_iret hx hq rfl d_DL_ship_34 (by first | (first | (rw [if_neg zc15]; first | exact (if_pos zc37).symm | exact (if_neg zc37).symm) | (rw [if_pos zc15]; first | exact zc26.symm | exact (b2_n0 zc26).symm)) | fail) (by first | (first | rfl | (simp [zc15, zc26]; done)) | fail)

set_option maxRecDepth 20000 in
set_option maxHeartbeats 4000000 in
theorem c_DL_seen {l : Launch} {G : Gz} (hG : zI G) (σ : St) (c : Int32) (m : Int32) (a0 : ¬ c < 0) (b0 : c < rg (σ 6) 6 0) (a1 : ¬ m < 0) (b1 : m ≤ 99) : MI l G y_DL_seen prog_1_method_14_code 3 .int 6 [.ref (G.1 0), .int c, .int m] σ (fsn σ c m) σ := by
  refine MI.of hG (by decide) (Nat.le_of_ble_eq_true rfl) (fun X hx hq => ?_)
  show J l G X 3 σ 0 [(0, .ref (G.1 0)), (1, .int c), (2, .int m)] []
  refine j_aload_n hx d_DL_seen_0 rfl 0 rfl ?_
  refine j_iconst (v := 0) hx d_DL_seen_1 (by decide) ?_
  refine j_iload_n hx d_DL_seen_2 rfl 1 rfl ?_
  refine j_callVv hx (c_DL_needThere hG σ 0 c (by exact a0) (by exact b0)) mo_DL_needThere mv_DL_needThere t_984 (by decide) rfl (by decide) (sh_0 _ _) rfl rfl (Nat.le_of_ble_eq_true rfl) d_DL_seen_3 ?_
  refine j_aload_n hx d_DL_seen_6 rfl 0 rfl ?_
  refine j_iload_n hx d_DL_seen_7 rfl 2 rfl ?_
  refine j_iconst (v := 0) hx d_DL_seen_8 (by decide) ?_
  refine j_bipush (v := 99) hx d_DL_seen_9 (by decide) ?_
  refine j_callVv hx (c_DL_needWithin hG σ m 0 99 (by exact a1) (by exact b1)) mo_DL_needWithin mv_DL_needWithin t_562 (by decide) rfl (by decide) (sh_0 _ _) rfl rfl (Nat.le_of_ble_eq_true rfl) d_DL_seen_11 ?_
  refine j_aload_n hx d_DL_seen_14 rfl 0 rfl ?_
  refine j_iload_n hx d_DL_seen_15 rfl 1 rfl ?_
  refine j_iload_n hx d_DL_seen_16 rfl 2 rfl ?_
  refine j_callVi hx (c_DL_flashesSeen hG σ c m) mo_DL_flashesSeen mv_DL_flashesSeen t_1046 (by decide) rfl (by decide) (sh_0 _ _) rfl rfl (Nat.le_of_ble_eq_true rfl) d_DL_seen_17 ?_
  exact j_iret hx hq rfl d_DL_seen_20 (by first | (rfl) | fail) (by first | (first | rfl | (simp []; done)) | fail)

set_option maxRecDepth 20000 in
set_option maxHeartbeats 4000000 in
theorem c_DL_share {l : Launch} {G : Gz} (hG : zI G) (σ : St) (d : Int32) (n : Int32) (a0 : ¬ d < 0) (b0 : d < rg (σ 6) 6 4) (a1 : ¬ n < 0) (b1 : n ≤ 999) : MI l G y_DL_share prog_1_method_26_code 3 .int 6 [.ref (G.1 0), .int d, .int n] σ (shr σ d n) σ := by
  refine MI.of hG (by decide) (Nat.le_of_ble_eq_true rfl) (fun X hx hq => ?_)
  show J l G X 3 σ 0 [(0, .ref (G.1 0)), (1, .int d), (2, .int n)] []
  refine j_aload_n hx d_DL_share_0 rfl 0 rfl ?_
  refine j_iconst (v := 4) hx d_DL_share_1 (by decide) ?_
  refine j_iload_n hx d_DL_share_2 rfl 1 rfl ?_
  refine j_callVv hx (c_DL_needThere hG σ 4 d (by exact a0) (by exact b0)) mo_DL_needThere mv_DL_needThere t_984 (by decide) rfl (by decide) (sh_0 _ _) rfl rfl (Nat.le_of_ble_eq_true rfl) d_DL_share_3 ?_
  refine j_aload_n hx d_DL_share_6 rfl 0 rfl ?_
  refine j_iload_n hx d_DL_share_7 rfl 2 rfl ?_
  refine j_iconst (v := 0) hx d_DL_share_8 (by decide) ?_
  refine j_sipush (v := 999) hx d_DL_share_9 (by decide) ?_
  refine j_callVv hx (c_DL_needWithin hG σ n 0 999 (by exact a1) (by exact b1)) mo_DL_needWithin mv_DL_needWithin t_562 (by decide) rfl (by decide) (sh_0 _ _) rfl rfl (Nat.le_of_ble_eq_true rfl) d_DL_share_12 ?_
  refine j_aload_n hx d_DL_share_15 rfl 0 rfl ?_
  refine j_get hx ck_DL 1 (by decide) t_327 (by decide) (sh_0 _ _) rfl d_DL_share_16 ?_
  refine j_iload_n hx d_DL_share_19 rfl 1 rfl ?_
  refine j_iload_n hx d_DL_share_20 rfl 2 rfl ?_
  refine j_callVi hx (c_Coast_shareOf hG σ d n) mo_Coast_shareOf mv_Coast_shareOf t_1264 (by decide) rfl (by decide) (sh_4 _ _) rfl rfl (Nat.le_of_ble_eq_true rfl) d_DL_share_21 ?_
  exact j_iret hx hq rfl d_DL_share_24 (by first | (rfl) | fail) (by first | (first | rfl | (simp []; done)) | fail)

set_option maxRecDepth 20000 in
set_option maxHeartbeats 4000000 in
theorem c_DL_flash {l : Launch} {G : Gz} (hG : zI G) (σ : St) (j : Int32) (m : Int32) (a0 : ¬ j < 0) (b0 : j < rg (σ 6) 6 1) (a1 : ¬ m < 0) (b1 : m ≤ 99) : MI l G y_DL_flash prog_1_method_28_code 5 .int 6 [.ref (G.1 0), .int j, .int m] σ (if lft m (rg (σ 12) 6 j) = 0 then m else m + rg (σ 12) 6 j - lft m (rg (σ 12) 6 j)) σ := by
  refine MI.of hG (by decide) (Nat.le_of_ble_eq_true rfl) (fun X hx hq => ?_)
  show J l G X 5 σ 0 [(0, .ref (G.1 0)), (1, .int j), (2, .int m)] []
  refine j_aload_n hx d_DL_flash_0 rfl 0 rfl ?_
  refine j_iconst (v := 1) hx d_DL_flash_1 (by decide) ?_
  refine j_iload_n hx d_DL_flash_2 rfl 1 rfl ?_
  refine j_callVv hx (c_DL_needThere hG σ 1 j (by exact a0) (by exact b0)) mo_DL_needThere mv_DL_needThere t_984 (by decide) rfl (by decide) (sh_0 _ _) rfl rfl (Nat.le_of_ble_eq_true rfl) d_DL_flash_3 ?_
  refine j_aload_n hx d_DL_flash_6 rfl 0 rfl ?_
  refine j_iload_n hx d_DL_flash_7 rfl 2 rfl ?_
  refine j_iconst (v := 0) hx d_DL_flash_8 (by decide) ?_
  refine j_bipush (v := 99) hx d_DL_flash_9 (by decide) ?_
  refine j_callVv hx (c_DL_needWithin hG σ m 0 99 (by exact a1) (by exact b1)) mo_DL_needWithin mv_DL_needWithin t_562 (by decide) rfl (by decide) (sh_0 _ _) rfl rfl (Nat.le_of_ble_eq_true rfl) d_DL_flash_11 ?_
  refine j_aload_n hx d_DL_flash_14 rfl 0 rfl ?_
  refine j_get hx ck_DL 1 (by decide) t_327 (by decide) (sh_0 _ _) rfl d_DL_flash_15 ?_
  refine j_get hx ck_Coast 3 (by decide) t_95 (by decide) (sh_4 _ _) rfl d_DL_flash_18 ?_
  refine j_iload_n hx d_DL_flash_21 rfl 1 rfl ?_
  refine j_callVi hx (c_Row_getA hG ir_11 12 rfl σ j) mo_Row_get mv_Row_get t_475 (by decide) rfl (by decide) (sh_11 _ _) rfl rfl (Nat.le_of_ble_eq_true rfl) d_DL_flash_22 ?_
  refine j_istore_n hx [(3, .int (rg (σ (11 + 1)) 6 j)), (0, .ref (G.1 0)), (1, .int j), (2, .int m)] d_DL_flash_25 rfl (by decide) rfl ?_
  refine j_iload_n hx d_DL_flash_26 rfl 3 rfl ?_
  refine j_iload_n hx d_DL_flash_27 rfl 0 rfl ?_
  refine j_callSi hx (c_DL_left hG σ m (rg (σ (11 + 1)) 6 j)) mo_DL_left t_1113 t_1285 (by decide) rfl rfl (Nat.le_of_ble_eq_true rfl) d_DL_flash_28 ?_
  refine j_istore hx [(4, .int (lft m (rg (σ (11 + 1)) 6 j))), (3, .int (rg (σ (11 + 1)) 6 j)), (0, .ref (G.1 0)), (1, .int j), (2, .int m)] d_DL_flash_31 (by decide) rfl ?_
  refine j_iload hx d_DL_flash_33 0 rfl ?_
  refine j_if_ne (tgt := 42) hx d_DL_flash_35 (by decide) (fun zc35 => ?_) (fun zc35 => ?_)
  · skip
    refine j_iload_n hx d_DL_flash_42 rfl 4 rfl ?_
    refine j_iload_n hx d_DL_flash_43 rfl 1 rfl ?_
    refine j_iadd hx d_DL_flash_44 ?_
    refine j_iload hx d_DL_flash_45 0 rfl ?_
    refine j_isub hx d_DL_flash_47 ?_
    exact j_iret hx hq rfl d_DL_flash_48 (by first | (first | exact (if_pos zc35).symm | exact (if_neg zc35).symm) | fail) (by first | (first | rfl | (simp [zc35]; done)) | fail)
  · skip
    refine j_iload_n hx d_DL_flash_38 rfl 4 rfl ?_
    refine j_goto (tgt := 48) hx d_DL_flash_39 (by decide) ?_
    exact j_iret hx hq rfl d_DL_flash_48 (by first | (first | exact (if_pos zc35).symm | exact (if_neg zc35).symm) | fail) (by first | (first | rfl | (simp [zc35]; done)) | fail)

set_option maxRecDepth 20000 in
set_option maxHeartbeats 4000000 in
theorem c_DL_fits {l : Launch} {G : Gz} (hG : zI G) (σ : St) (w : Int32) (a0 : ¬ w < 0) (b0 : w ≤ 1) : MI l G y_DL_fits prog_1_method_20_code 2 .int 6 [.ref (G.1 0), .int w] σ (if w = 0 then ftP σ 9 else ffF σ) σ := by
  refine MI.of hG (by decide) (Nat.le_of_ble_eq_true rfl) (fun X hx hq => ?_)
  show J l G X 2 σ 0 [(0, .ref (G.1 0)), (1, .int w)] []
  refine j_aload_n hx d_DL_fits_0 rfl 0 rfl ?_
  refine j_iload_n hx d_DL_fits_1 rfl 1 rfl ?_
  refine j_iconst (v := 0) hx d_DL_fits_2 (by decide) ?_
  refine j_iconst (v := 1) hx d_DL_fits_3 (by decide) ?_
  refine j_callVv hx (c_DL_needWithin hG σ w 0 1 (by exact a0) (by exact b0)) mo_DL_needWithin mv_DL_needWithin t_562 (by decide) rfl (by decide) (sh_0 _ _) rfl rfl (Nat.le_of_ble_eq_true rfl) d_DL_fits_4 ?_
  refine j_iload_n hx d_DL_fits_7 rfl 1 rfl ?_
  refine j_if_ne (tgt := 21) hx d_DL_fits_8 (by decide) (fun zc8 => ?_) (fun zc8 => ?_)
  · skip
    refine j_aload_n hx d_DL_fits_21 rfl 0 rfl ?_
    refine j_get hx ck_DL 5 (by decide) t_331 (by decide) (sh_0 _ _) rfl d_DL_fits_22 ?_
    refine j_callVi hx (c_FlashLog_firstFit hG σ) mo_FlashLog_firstFit mv_FlashLog_firstFit t_1187 (by decide) rfl (by decide) (sh_68 _ _) rfl rfl (Nat.le_of_ble_eq_true rfl) d_DL_fits_25 ?_
    exact j_iret hx hq rfl d_DL_fits_28 (by first | (first | exact (if_pos zc8).symm | exact (if_neg zc8).symm) | fail) (by first | (first | rfl | (simp [zc8]; done)) | fail)
  · skip
    refine j_aload_n hx d_DL_fits_11 rfl 0 rfl ?_
    refine j_get hx ck_DL 5 (by decide) t_331 (by decide) (sh_0 _ _) rfl d_DL_fits_12 ?_
    refine j_callVi hx (c_FlashLog_fitting hG σ) mo_FlashLog_fitting mv_FlashLog_fitting t_1178 (by decide) rfl (by decide) (sh_68 _ _) rfl rfl (Nat.le_of_ble_eq_true rfl) d_DL_fits_15 ?_
    refine j_goto (tgt := 28) hx d_DL_fits_18 (by decide) ?_
    exact j_iret hx hq rfl d_DL_fits_28 (by first | (first | exact (if_pos zc8).symm | exact (if_neg zc8).symm) | fail) (by first | (first | rfl | (simp [zc8]; done)) | fail)

set_option maxRecDepth 20000 in
set_option maxHeartbeats 4000000 in
theorem c_DL_look {l : Launch} {G : Gz} (hG : zI G) (σ : St) (w : Int32) (a0 : ¬ w < 0) (b0 : w ≤ 1) : MI l G y_DL_look prog_1_method_21_code 3 .int 6 [.ref (G.1 0), .int w] σ (if w = 0 then (bmF σ 60).1 else lwV σ (bmF σ 60).1) σ := by
  refine MI.of hG (by decide) (Nat.le_of_ble_eq_true rfl) (fun X hx hq => ?_)
  show J l G X 3 σ 0 [(0, .ref (G.1 0)), (1, .int w)] []
  refine j_aload_n hx d_DL_look_0 rfl 0 rfl ?_
  refine j_iload_n hx d_DL_look_1 rfl 1 rfl ?_
  refine j_iconst (v := 0) hx d_DL_look_2 (by decide) ?_
  refine j_iconst (v := 1) hx d_DL_look_3 (by decide) ?_
  refine j_callVv hx (c_DL_needWithin hG σ w 0 1 (by exact a0) (by exact b0)) mo_DL_needWithin mv_DL_needWithin t_562 (by decide) rfl (by decide) (sh_0 _ _) rfl rfl (Nat.le_of_ble_eq_true rfl) d_DL_look_4 ?_
  refine j_aload_n hx d_DL_look_7 rfl 0 rfl ?_
  refine j_get hx ck_DL 5 (by decide) t_331 (by decide) (sh_0 _ _) rfl d_DL_look_8 ?_
  refine j_callVi hx (c_FlashLog_bestMinute hG σ) mo_FlashLog_bestMinute mv_FlashLog_bestMinute t_1198 (by decide) rfl (by decide) (sh_68 _ _) rfl rfl (Nat.le_of_ble_eq_true rfl) d_DL_look_11 ?_
  refine j_istore_n hx [(2, .int ((bmF σ 60).1)), (0, .ref (G.1 0)), (1, .int w)] d_DL_look_14 rfl (by decide) rfl ?_
  refine j_iload_n hx d_DL_look_15 rfl 2 rfl ?_
  refine j_if_ne (tgt := 23) hx d_DL_look_16 (by decide) (fun zc16 => ?_) (fun zc16 => ?_)
  · skip
    refine j_aload_n hx d_DL_look_23 rfl 1 rfl ?_
    refine j_get hx ck_DL 5 (by decide) t_331 (by decide) (sh_0 _ _) rfl d_DL_look_24 ?_
    refine j_iload_n hx d_DL_look_27 rfl 0 rfl ?_
    refine j_callVi hx (c_FlashLog_leftAtWorst hG σ ((bmF σ 60).1)) mo_FlashLog_leftAtWorst mv_FlashLog_leftAtWorst t_1207 (by decide) rfl (by decide) (sh_68 _ _) rfl rfl (Nat.le_of_ble_eq_true rfl) d_DL_look_28 ?_
    exact j_iret hx hq rfl d_DL_look_31 (by first | (first | exact (if_pos zc16).symm | exact (if_neg zc16).symm) | fail) (by first | (first | rfl | (simp [zc16]; done)) | fail)
  · skip
    refine j_iload_n hx d_DL_look_19 rfl 0 rfl ?_
    refine j_goto (tgt := 31) hx d_DL_look_20 (by decide) ?_
    exact j_iret hx hq rfl d_DL_look_31 (by first | (first | exact (if_pos zc16).symm | exact (if_neg zc16).symm) | fail) (by first | (first | rfl | (simp [zc16]; done)) | fail)

set_option maxRecDepth 20000 in
set_option maxHeartbeats 4000000 in
theorem c_DL_carriers {l : Launch} {G : Gz} (hG : zI G) (σ : St) (w : Int32) (a0 : ¬ w < 0) (b0 : w ≤ 2) : MI l G y_DL_carriers prog_1_method_25_code 3 .int 6 [.ref (G.1 0), .int w] σ (if w = 0 then rsT σ (nC σ) else if w = 1 then frs σ else if frs σ = -1 then 0 else chv σ (frs σ / 100) (frs σ - frs σ / 100 * 100)) σ := by
  refine MI.of hG (by decide) (Nat.le_of_ble_eq_true rfl) (fun X hx hq => ?_)
  show J l G X 3 σ 0 [(0, .ref (G.1 0)), (1, .int w)] []
  refine j_aload_n hx d_DL_carriers_0 rfl 0 rfl ?_
  refine j_iload_n hx d_DL_carriers_1 rfl 1 rfl ?_
  refine j_iconst (v := 0) hx d_DL_carriers_2 (by decide) ?_
  refine j_iconst (v := 2) hx d_DL_carriers_3 (by decide) ?_
  refine j_callVv hx (c_DL_needWithin hG σ w 0 2 (by exact a0) (by exact b0)) mo_DL_needWithin mv_DL_needWithin t_562 (by decide) rfl (by decide) (sh_0 _ _) rfl rfl (Nat.le_of_ble_eq_true rfl) d_DL_carriers_4 ?_
  refine j_iload_n hx d_DL_carriers_7 rfl 1 rfl ?_
  refine j_if_ne (tgt := 19) hx d_DL_carriers_8 (by decide) (fun zc8 => ?_) (fun zc8 => ?_)
  · skip
    refine j_aload_n hx d_DL_carriers_19 rfl 0 rfl ?_
    refine j_get hx ck_DL 1 (by decide) t_327 (by decide) (sh_0 _ _) rfl d_DL_carriers_20 ?_
    refine j_callVi hx (c_Coast_firstRest hG σ) mo_Coast_firstRest mv_Coast_firstRest t_1252 (by decide) rfl (by decide) (sh_4 _ _) rfl rfl (Nat.le_of_ble_eq_true rfl) d_DL_carriers_23 ?_
    refine j_istore_n hx [(2, .int (frs σ)), (0, .ref (G.1 0)), (1, .int w)] d_DL_carriers_26 rfl (by decide) rfl ?_
    refine j_iload_n hx d_DL_carriers_27 rfl 2 rfl ?_
    refine j_iconst (v := 1) hx d_DL_carriers_28 (by decide) ?_
    refine j_icmp_ne (tgt := 34) hx d_DL_carriers_29 (by decide) (fun zc29 => ?_) (fun zc29 => ?_)
    · skip
      refine j_iload_n hx d_DL_carriers_34 rfl 0 rfl ?_
      refine j_iconst (v := (-1)) hx d_DL_carriers_35 (by decide) ?_
      refine j_icmp_ne (tgt := 43) hx d_DL_carriers_36 (by decide) (fun zc36 => ?_) (fun zc36 => ?_)
      · skip
        refine j_aload_n hx d_DL_carriers_43 rfl 1 rfl ?_
        refine j_get hx ck_DL 1 (by decide) t_327 (by decide) (sh_0 _ _) rfl d_DL_carriers_44 ?_
        refine j_iload_n hx d_DL_carriers_47 rfl 0 rfl ?_
        refine j_bipush (v := 100) hx d_DL_carriers_48 (by decide) ?_
        refine j_idiv hx d_DL_carriers_50 (by first | assumption | decide) ?_
        refine j_iload_n hx d_DL_carriers_51 rfl 0 rfl ?_
        refine j_bipush (v := 100) hx d_DL_carriers_52 (by decide) ?_
        refine j_irem hx d_DL_carriers_54 (by first | assumption | decide) ?_
        refine j_callVi hx (c_Coast_carriersHave hG σ ((frs σ) / 100) ((frs σ) - (frs σ) / 100 * 100)) mo_Coast_carriersHave mv_Coast_carriersHave t_1256 (by decide) rfl (by decide) (sh_4 _ _) rfl rfl (Nat.le_of_ble_eq_true rfl) d_DL_carriers_55 ?_
        exact j_iret hx hq rfl d_DL_carriers_58 (by first | (first | exact (if_pos zc8).symm | (rw [if_neg zc8]; first | exact (if_pos zc29).symm | (rw [if_neg zc29]; first | exact (if_pos zc36).symm | exact (if_neg zc36).symm))) | fail) (by first | (first | rfl | (simp [zc8, zc29, zc36]; done)) | fail)
      · skip
        refine j_iconst (v := 0) hx d_DL_carriers_39 (by decide) ?_
        refine j_goto (tgt := 58) hx d_DL_carriers_40 (by decide) ?_
        exact j_iret hx hq rfl d_DL_carriers_58 (by first | (first | exact (if_pos zc8).symm | (rw [if_neg zc8]; first | exact (if_pos zc29).symm | (rw [if_neg zc29]; first | exact (if_pos zc36).symm | exact (if_neg zc36).symm))) | fail) (by first | (first | rfl | (simp [zc8, zc29, zc36]; done)) | fail)
    · skip
      refine j_iload_n hx d_DL_carriers_32 rfl 0 rfl ?_
      exact j_iret hx hq rfl d_DL_carriers_33 (by first | (first | exact (if_pos zc8).symm | (rw [if_neg zc8]; first | exact (if_pos zc29).symm | (rw [if_neg zc29]; first | exact (if_pos zc36).symm | exact (if_neg zc36).symm))) | fail) (by first | (first | rfl | (simp [zc8, zc29]; done)) | fail)
  · skip
    refine j_aload_n hx d_DL_carriers_11 rfl 0 rfl ?_
    refine j_get hx ck_DL 1 (by decide) t_327 (by decide) (sh_0 _ _) rfl d_DL_carriers_12 ?_
    refine j_callVi hx (c_Coast_rests hG σ) mo_Coast_rests mv_Coast_rests t_1239 (by decide) rfl (by decide) (sh_4 _ _) rfl rfl (Nat.le_of_ble_eq_true rfl) d_DL_carriers_15 ?_
    exact j_iret hx hq rfl d_DL_carriers_18 (by first | (first | exact (if_pos zc8).symm | (rw [if_neg zc8]; first | exact (if_pos zc29).symm | (rw [if_neg zc29]; first | exact (if_pos zc36).symm | exact (if_neg zc36).symm))) | fail) (by first | (first | rfl | (simp [zc8]; done)) | fail)

set_option maxRecDepth 20000 in
set_option maxHeartbeats 4000000 in
theorem c_DL_reefs {l : Launch} {G : Gz} (hG : zI G) (σ : St) (w : Int32) (a0 : ¬ w < 0) (b0 : w ≤ 2) : MI l G y_DL_reefs prog_1_method_31_code 3 .int 6 [.ref (G.1 0), .int w] σ (if w = 2 then sm (fun c => cR σ (nI c)) (nC σ) else if w = 1 then (lrf σ (nC σ)).1 else rrf σ (lrf σ (nC σ)).1) σ := by
  refine MI.of hG (by decide) (Nat.le_of_ble_eq_true rfl) (fun X hx hq => ?_)
  show J l G X 3 σ 0 [(0, .ref (G.1 0)), (1, .int w)] []
  refine j_aload_n hx d_DL_reefs_0 rfl 0 rfl ?_
  refine j_iload_n hx d_DL_reefs_1 rfl 1 rfl ?_
  refine j_iconst (v := 0) hx d_DL_reefs_2 (by decide) ?_
  refine j_iconst (v := 2) hx d_DL_reefs_3 (by decide) ?_
  refine j_callVv hx (c_DL_needWithin hG σ w 0 2 (by exact a0) (by exact b0)) mo_DL_needWithin mv_DL_needWithin t_562 (by decide) rfl (by decide) (sh_0 _ _) rfl rfl (Nat.le_of_ble_eq_true rfl) d_DL_reefs_4 ?_
  refine j_iload_n hx d_DL_reefs_7 rfl 1 rfl ?_
  refine j_iconst (v := 2) hx d_DL_reefs_8 (by decide) ?_
  refine j_icmp_ne (tgt := 20) hx d_DL_reefs_9 (by decide) (fun zc9 => ?_) (fun zc9 => ?_)
  · skip
    refine j_aload_n hx d_DL_reefs_20 rfl 0 rfl ?_
    refine j_get hx ck_DL 1 (by decide) t_327 (by decide) (sh_0 _ _) rfl d_DL_reefs_21 ?_
    refine j_callVi hx (c_Coast_longestReefFirst hG σ) mo_Coast_longestReefFirst mv_Coast_longestReefFirst t_1316 (by decide) rfl (by decide) (sh_4 _ _) rfl rfl (Nat.le_of_ble_eq_true rfl) d_DL_reefs_24 ?_
    refine j_istore_n hx [(2, .int ((lrf σ (nC σ)).1)), (0, .ref (G.1 0)), (1, .int w)] d_DL_reefs_27 rfl (by decide) rfl ?_
    refine j_iload_n hx d_DL_reefs_28 rfl 2 rfl ?_
    refine j_iconst (v := 1) hx d_DL_reefs_29 (by decide) ?_
    refine j_icmp_ne (tgt := 37) hx d_DL_reefs_30 (by decide) (fun zc30 => ?_) (fun zc30 => ?_)
    · skip
      refine j_aload_n hx d_DL_reefs_37 rfl 1 rfl ?_
      refine j_get hx ck_DL 1 (by decide) t_327 (by decide) (sh_0 _ _) rfl d_DL_reefs_38 ?_
      refine j_iload_n hx d_DL_reefs_41 rfl 0 rfl ?_
      refine j_callVi hx (c_Coast_reefRowFrom hG σ ((lrf σ (nC σ)).1)) mo_Coast_reefRowFrom mv_Coast_reefRowFrom t_1324 (by decide) rfl (by decide) (sh_4 _ _) rfl rfl (Nat.le_of_ble_eq_true rfl) d_DL_reefs_42 ?_
      exact j_iret hx hq rfl d_DL_reefs_45 (by first | (first | exact (if_pos zc9).symm | (rw [if_neg zc9]; first | exact (if_pos zc30).symm | exact (if_neg zc30).symm)) | fail) (by first | (first | rfl | (simp [zc9, zc30]; done)) | fail)
    · skip
      refine j_iload_n hx d_DL_reefs_33 rfl 0 rfl ?_
      refine j_goto (tgt := 45) hx d_DL_reefs_34 (by decide) ?_
      exact j_iret hx hq rfl d_DL_reefs_45 (by first | (first | exact (if_pos zc9).symm | (rw [if_neg zc9]; first | exact (if_pos zc30).symm | exact (if_neg zc30).symm)) | fail) (by first | (first | rfl | (simp [zc9, zc30]; done)) | fail)
  · skip
    refine j_aload_n hx d_DL_reefs_12 rfl 0 rfl ?_
    refine j_get hx ck_DL 1 (by decide) t_327 (by decide) (sh_0 _ _) rfl d_DL_reefs_13 ?_
    refine j_callVi hx (c_Coast_allReefs hG σ) mo_Coast_allReefs mv_Coast_allReefs t_1312 (by decide) rfl (by decide) (sh_4 _ _) rfl rfl (Nat.le_of_ble_eq_true rfl) d_DL_reefs_16 ?_
    exact j_iret hx hq rfl d_DL_reefs_19 (by first | (first | exact (if_pos zc9).symm | (rw [if_neg zc9]; first | exact (if_pos zc30).symm | exact (if_neg zc30).symm)) | fail) (by first | (first | rfl | (simp [zc9]; done)) | fail)

