
set_option maxRecDepth 20000 in
set_option maxHeartbeats 4000000 in
theorem c_DL_put {l : Launch} {G : Gz} (hG : zI G) (σ : St) (ships : Int32) (w : Int32) (a0 : ¬ ships < 0) (b0 : ships ≤ 1 <<< (cM σ 3 &&& 31) - 1) (a1 : ¬ w < 0) (b1 : w ≤ 1) (hD : cM σ 2 = nI (ct (cM σ 2))) (hD3 : ct (cM σ 2) ≤ 3) : MI l G y_DL_put prog_1_method_18_code 3 .int 9 [.ref (G.1 0), .int ships, .int w] σ (if w = 0 then (pdS σ ships) 93 2 else (pdS σ ships) 93 3) (pdS σ ships) := by
  refine MI.of hG (by decide) (Nat.le_of_ble_eq_true rfl) (fun X hx hq => ?_)
  show J l G X 3 σ 0 [(0, .ref (G.1 0)), (1, .int ships), (2, .int w)] []
  refine j_aload_n hx d_DL_put_0 rfl 0 rfl ?_
  refine j_iload_n hx d_DL_put_1 rfl 1 rfl ?_
  refine j_callVv hx (c_DL_needShips hG σ ships (by exact a0) (by exact b0)) mo_DL_needShips mv_DL_needShips t_1090 (by decide) rfl (by decide) (sh_0 _ _) rfl rfl (Nat.le_of_ble_eq_true rfl) d_DL_put_2 ?_
  refine j_aload_n hx d_DL_put_5 rfl 0 rfl ?_
  refine j_iload_n hx d_DL_put_6 rfl 2 rfl ?_
  refine j_iconst (v := 0) hx d_DL_put_7 (by decide) ?_
  refine j_iconst (v := 1) hx d_DL_put_8 (by decide) ?_
  refine j_callVv hx (c_DL_needWithin hG σ w 0 1 (by exact a1) (by exact b1)) mo_DL_needWithin mv_DL_needWithin t_562 (by decide) rfl (by decide) (sh_0 _ _) rfl rfl (Nat.le_of_ble_eq_true rfl) d_DL_put_9 ?_
  refine j_aload_n hx d_DL_put_12 rfl 0 rfl ?_
  refine j_get hx ck_DL 10 (by decide) t_336 (by decide) (sh_0 _ _) rfl d_DL_put_13 ?_
  refine j_aload_n hx d_DL_put_16 rfl 0 rfl ?_
  refine j_get hx ck_DL 1 (by decide) t_327 (by decide) (sh_0 _ _) rfl d_DL_put_17 ?_
  refine j_aload_n hx d_DL_put_20 rfl 0 rfl ?_
  refine j_get hx ck_DL 3 (by decide) t_329 (by decide) (sh_0 _ _) rfl d_DL_put_21 ?_
  refine j_aload_n hx d_DL_put_24 rfl 0 rfl ?_
  refine j_get hx ck_DL 8 (by decide) t_334 (by decide) (sh_0 _ _) rfl d_DL_put_25 ?_
  refine j_aload_n hx d_DL_put_28 rfl 0 rfl ?_
  refine j_get hx ck_DL 9 (by decide) t_335 (by decide) (sh_0 _ _) rfl d_DL_put_29 ?_
  refine j_iload_n hx d_DL_put_32 rfl 1 rfl ?_
  refine j_callVv hx (c_Plans_placeDonkeys hG σ ships (by exact hD) (by exact hD3)) mo_Plans_placeDonkeys mv_Plans_placeDonkeys t_1094 (by decide) rfl (by decide) (sh_93 _ _) rfl rfl (Nat.le_of_ble_eq_true rfl) d_DL_put_33 ?_
  obtain ⟨s9_1, eg_1⟩ : ∃ z : St, z = pdS σ ships := ⟨_, rfl⟩
  refine J.to (σ' := s9_1) (by rw [eg_1]; first | done | rfl) rfl ?_
  refine j_iload_n hx d_DL_put_36 rfl 2 rfl ?_
  refine j_if_ne (tgt := 50) hx d_DL_put_37 (by decide) (fun zc37 => ?_) (fun zc37 => ?_)
  · skip
    refine j_aload_n hx d_DL_put_50 rfl 0 rfl ?_
    refine j_get hx ck_DL 10 (by decide) t_336 (by decide) (sh_0 _ _) rfl d_DL_put_51 ?_
    refine j_callVi hx (c_Plans_donkeyCells hG s9_1) mo_Plans_donkeyCells mv_Plans_donkeyCells t_1137 (by decide) rfl (by decide) (sh_93 _ _) rfl rfl (Nat.le_of_ble_eq_true rfl) d_DL_put_54 ?_
    exact j_iret hx hq rfl d_DL_put_57 (by first | (rw [eg_1]; first | exact (if_pos zc37).symm | exact (if_neg zc37).symm) | fail) (by first | (rw [eg_1]) | fail)
  · skip
    refine j_aload_n hx d_DL_put_40 rfl 0 rfl ?_
    refine j_get hx ck_DL 10 (by decide) t_336 (by decide) (sh_0 _ _) rfl d_DL_put_41 ?_
    refine j_callVi hx (c_Plans_worth hG s9_1) mo_Plans_worth mv_Plans_worth t_1133 (by decide) rfl (by decide) (sh_93 _ _) rfl rfl (Nat.le_of_ble_eq_true rfl) d_DL_put_44 ?_
    refine j_goto (tgt := 57) hx d_DL_put_47 (by decide) ?_
    exact j_iret hx hq rfl d_DL_put_57 (by first | (rw [eg_1]; first | exact (if_pos zc37).symm | exact (if_neg zc37).symm) | fail) (by first | (rw [eg_1]) | fail)

set_option maxRecDepth 20000 in
set_option maxHeartbeats 4000000 in
theorem c_DL_save {l : Launch} {G : Gz} (hG : zI G) (σ : St) (w : Int32) (a0 : ¬ w < 0) (b0 : w ≤ 2) : MI l G y_DL_save prog_1_method_19_code 2 .int 9 [.ref (G.1 0), .int w] σ (if cM σ 0 = 0 then -1 else if w = 0 then (plS σ) 93 2 else if w = 1 then (plS σ) 93 4 else (plS σ) 93 5) (if cM σ 0 = 0 then σ else plS σ) := by
  refine MI.of hG (by decide) (Nat.le_of_ble_eq_true rfl) (fun X hx hq => ?_)
  show J l G X 2 σ 0 [(0, .ref (G.1 0)), (1, .int w)] []
  refine j_aload_n hx d_DL_save_0 rfl 0 rfl ?_
  refine j_iload_n hx d_DL_save_1 rfl 1 rfl ?_
  refine j_iconst (v := 0) hx d_DL_save_2 (by decide) ?_
  refine j_iconst (v := 2) hx d_DL_save_3 (by decide) ?_
  refine j_callVv hx (c_DL_needWithin hG σ w 0 2 (by exact a0) (by exact b0)) mo_DL_needWithin mv_DL_needWithin t_562 (by decide) rfl (by decide) (sh_0 _ _) rfl rfl (Nat.le_of_ble_eq_true rfl) d_DL_save_4 ?_
  refine j_aload_n hx d_DL_save_7 rfl 0 rfl ?_
  refine j_get hx ck_DL 1 (by decide) t_327 (by decide) (sh_0 _ _) rfl d_DL_save_8 ?_
  refine j_get hx ck_Coast 0 (by decide) t_85 (by decide) (sh_4 _ _) rfl d_DL_save_11 ?_
  refine j_iconst (v := 0) hx d_DL_save_14 (by decide) ?_
  refine j_callVi hx (c_Row_getA hG ir_5 6 rfl σ 0) mo_Row_get mv_Row_get t_475 (by decide) rfl (by decide) (sh_5 _ _) rfl rfl (Nat.le_of_ble_eq_true rfl) d_DL_save_15 ?_
  refine j_if_ne (tgt := 23) hx d_DL_save_18 (by decide) (fun zc18 => ?_) (fun zc18 => ?_)
  · skip
    refine j_aload_n hx d_DL_save_23 rfl 0 rfl ?_
    refine j_get hx ck_DL 10 (by decide) t_336 (by decide) (sh_0 _ _) rfl d_DL_save_24 ?_
    refine j_aload_n hx d_DL_save_27 rfl 0 rfl ?_
    refine j_get hx ck_DL 1 (by decide) t_327 (by decide) (sh_0 _ _) rfl d_DL_save_28 ?_
    refine j_aload_n hx d_DL_save_31 rfl 0 rfl ?_
    refine j_get hx ck_DL 3 (by decide) t_329 (by decide) (sh_0 _ _) rfl d_DL_save_32 ?_
    refine j_aload_n hx d_DL_save_35 rfl 0 rfl ?_
    refine j_get hx ck_DL 8 (by decide) t_334 (by decide) (sh_0 _ _) rfl d_DL_save_36 ?_
    refine j_aload_n hx d_DL_save_39 rfl 0 rfl ?_
    refine j_get hx ck_DL 9 (by decide) t_335 (by decide) (sh_0 _ _) rfl d_DL_save_40 ?_
    refine j_callVv hx (c_Plans_placeLamp hG σ) mo_Plans_placeLamp mv_Plans_placeLamp t_1148 (by decide) rfl (by decide) (sh_93 _ _) rfl rfl (Nat.le_of_ble_eq_true rfl) d_DL_save_43 ?_
    obtain ⟨s9_1, eg_1⟩ : ∃ z : St, z = plS σ := ⟨_, rfl⟩
    refine J.to (σ' := s9_1) (by rw [eg_1]; first | done | rfl) rfl ?_
    refine j_iload_n hx d_DL_save_46 rfl 1 rfl ?_
    refine j_if_ne (tgt := 58) hx d_DL_save_47 (by decide) (fun zc47 => ?_) (fun zc47 => ?_)
    · skip
      refine j_iload_n hx d_DL_save_58 rfl 1 rfl ?_
      refine j_iconst (v := 1) hx d_DL_save_59 (by decide) ?_
      refine j_icmp_ne (tgt := 73) hx d_DL_save_60 (by decide) (fun zc60 => ?_) (fun zc60 => ?_)
      · skip
        refine j_aload_n hx d_DL_save_73 rfl 0 rfl ?_
        refine j_get hx ck_DL 10 (by decide) t_336 (by decide) (sh_0 _ _) rfl d_DL_save_74 ?_
        refine j_callVi hx (c_Plans_lampPeriod hG s9_1) mo_Plans_lampPeriod mv_Plans_lampPeriod t_1167 (by decide) rfl (by decide) (sh_93 _ _) rfl rfl (Nat.le_of_ble_eq_true rfl) d_DL_save_77 ?_
        exact j_iret hx hq rfl d_DL_save_80 (by first | (rw [if_neg zc18, eg_1, if_neg zc47]; first | exact (if_pos zc60).symm | exact (if_neg zc60).symm) | fail) (by first | (rw [eg_1]; exact (if_neg zc18).symm) | fail)
      · skip
        refine j_aload_n hx d_DL_save_63 rfl 0 rfl ?_
        refine j_get hx ck_DL 10 (by decide) t_336 (by decide) (sh_0 _ _) rfl d_DL_save_64 ?_
        refine j_callVi hx (c_Plans_lampCell hG s9_1) mo_Plans_lampCell mv_Plans_lampCell t_1163 (by decide) rfl (by decide) (sh_93 _ _) rfl rfl (Nat.le_of_ble_eq_true rfl) d_DL_save_67 ?_
        refine j_goto (tgt := 80) hx d_DL_save_70 (by decide) ?_
        exact j_iret hx hq rfl d_DL_save_80 (by first | (rw [if_neg zc18, eg_1, if_neg zc47]; first | exact (if_pos zc60).symm | exact (if_neg zc60).symm) | fail) (by first | (rw [eg_1]; exact (if_neg zc18).symm) | fail)
    · skip
      refine j_aload_n hx d_DL_save_50 rfl 0 rfl ?_
      refine j_get hx ck_DL 10 (by decide) t_336 (by decide) (sh_0 _ _) rfl d_DL_save_51 ?_
      refine j_callVi hx (c_Plans_worth hG s9_1) mo_Plans_worth mv_Plans_worth t_1133 (by decide) rfl (by decide) (sh_93 _ _) rfl rfl (Nat.le_of_ble_eq_true rfl) d_DL_save_54 ?_
      exact j_iret hx hq rfl d_DL_save_57 (by first | (rw [if_neg zc18, eg_1]; exact (if_pos zc47).symm) | fail) (by first | (rw [eg_1]; exact (if_neg zc18).symm) | fail)
  · skip
    refine j_iconst (v := (-1)) hx d_DL_save_21 (by decide) ?_
    exact j_iret hx hq rfl d_DL_save_22 (by first | (exact (if_pos zc18).symm) | fail) (by first | (exact (if_pos zc18).symm) | fail)

