
set_option maxRecDepth 20000 in
set_option maxHeartbeats 4000000 in
theorem c_DL_needWithin {l : Launch} {G : Gz} (hG : zI G) (σ : St) (v : Int32) (lo : Int32) (hi : Int32) (h1 : ¬ v < lo) (h2 : v ≤ hi) : MV l G y_DL_needWithin prog_1_method_42_code 4 1 [.ref (G.1 0), .int v, .int lo, .int hi] σ σ := by
  refine MV.of hG (by decide) (Nat.le_of_ble_eq_true rfl) (fun X hx hq => ?_)
  show J l G X 4 σ 0 [(0, .ref (G.1 0)), (1, .int v), (2, .int lo), (3, .int hi)] []
  refine j_iload_n hx d_DL_needWithin_0 rfl 1 rfl ?_
  refine j_iload_n hx d_DL_needWithin_1 rfl 2 rfl ?_
  refine j_icmp_lt (tgt := 10) hx d_DL_needWithin_2 (by decide) (fun zc2 => ?_) (fun zc2 => ?_)
  · exact absurd zc2 h1
  · skip
    refine j_iload_n hx d_DL_needWithin_5 rfl 1 rfl ?_
    refine j_iload_n hx d_DL_needWithin_6 rfl 3 rfl ?_
    refine j_icmp_le (tgt := 31) hx d_DL_needWithin_7 (by decide) (fun zc7 => ?_) (fun zc7 => ?_)
    · skip
      exact j_vret hx hq d_DL_needWithin_31 (by first | (rfl) | fail)
    · exact absurd h2 zc7

set_option maxRecDepth 20000 in
set_option maxHeartbeats 4000000 in
theorem c_DL_needThere {l : Launch} {G : Gz} (hG : zI G) (σ : St) (kd : Int32) (j : Int32) (h1 : ¬ j < 0) (h2 : j < rg (σ 6) 6 kd) : MV l G y_DL_needThere prog_1_method_41_code 3 2 [.ref (G.1 0), .int kd, .int j] σ σ := by
  refine MV.of hG (by decide) (Nat.le_of_ble_eq_true rfl) (fun X hx hq => ?_)
  show J l G X 3 σ 0 [(0, .ref (G.1 0)), (1, .int kd), (2, .int j)] []
  refine j_iload_n hx d_DL_needThere_0 rfl 2 rfl ?_
  refine j_if_lt (tgt := 19) hx d_DL_needThere_1 (by decide) (fun zc1 => ?_) (fun zc1 => ?_)
  · exact absurd zc1 h1
  · skip
    refine j_iload_n hx d_DL_needThere_4 rfl 2 rfl ?_
    refine j_aload_n hx d_DL_needThere_5 rfl 0 rfl ?_
    refine j_get hx ck_DL 1 (by decide) t_327 (by decide) (sh_0 _ _) rfl d_DL_needThere_6 ?_
    refine j_get hx ck_Coast 0 (by decide) t_85 (by decide) (sh_4 _ _) rfl d_DL_needThere_9 ?_
    refine j_iload_n hx d_DL_needThere_12 rfl 1 rfl ?_
    refine j_callVi hx (c_Row_getA hG ir_5 6 rfl σ kd) mo_Row_get mv_Row_get t_475 (by decide) rfl (by decide) (sh_5 _ _) rfl rfl (Nat.le_of_ble_eq_true rfl) d_DL_needThere_13 ?_
    refine j_icmp_lt (tgt := 40) hx d_DL_needThere_16 (by decide) (fun zc16 => ?_) (fun zc16 => ?_)
    · skip
      exact j_vret hx hq d_DL_needThere_40 (by first | (rfl) | fail)
    · exact absurd h2 zc16

set_option maxRecDepth 20000 in
set_option maxHeartbeats 4000000 in
theorem c_DL_needShips {l : Launch} {G : Gz} (hG : zI G) (σ : St) (ships : Int32) (h1 : ¬ ships < 0) (h2 : ships ≤ 1 <<< (cM σ 3 &&& 31) - 1) : MV l G y_DL_needShips prog_1_method_43_code 2 3 [.ref (G.1 0), .int ships] σ σ := by
  refine MV.of hG (by decide) (Nat.le_of_ble_eq_true rfl) (fun X hx hq => ?_)
  show J l G X 2 σ 0 [(0, .ref (G.1 0)), (1, .int ships)] []
  refine j_aload_n hx d_DL_needShips_0 rfl 0 rfl ?_
  refine j_iload_n hx d_DL_needShips_1 rfl 1 rfl ?_
  refine j_iconst (v := 0) hx d_DL_needShips_2 (by decide) ?_
  refine j_iconst (v := 1) hx d_DL_needShips_3 (by decide) ?_
  refine j_aload_n hx d_DL_needShips_4 rfl 0 rfl ?_
  refine j_get hx ck_DL 1 (by decide) t_327 (by decide) (sh_0 _ _) rfl d_DL_needShips_5 ?_
  refine j_get hx ck_Coast 0 (by decide) t_85 (by decide) (sh_4 _ _) rfl d_DL_needShips_8 ?_
  refine j_iconst (v := 3) hx d_DL_needShips_11 (by decide) ?_
  refine j_callVi hx (c_Row_getA hG ir_5 6 rfl σ 3) mo_Row_get mv_Row_get t_475 (by decide) rfl (by decide) (sh_5 _ _) rfl rfl (Nat.le_of_ble_eq_true rfl) d_DL_needShips_12 ?_
  refine j_ishl hx d_DL_needShips_15 ?_
  refine j_iconst (v := 1) hx d_DL_needShips_16 (by decide) ?_
  refine j_isub hx d_DL_needShips_17 ?_
  refine j_callVv hx (c_DL_needWithin hG σ ships 0 ((1 <<< ((rg (σ (5 + 1)) 6 3) &&& 31)) - 1) (by exact h1) (by exact h2)) mo_DL_needWithin mv_DL_needWithin t_562 (by decide) rfl (by decide) (sh_0 _ _) rfl rfl (Nat.le_of_ble_eq_true rfl) d_DL_needShips_18 ?_
  exact j_vret hx hq d_DL_needShips_21 (by first | (rfl) | fail)

set_option maxRecDepth 20000 in
set_option maxHeartbeats 4000000 in
theorem c_DL_openText {l : Launch} {G : Gz} (hG : zI G) (σ : St) (n : Int32) (lg : Int32) (h1 : ¬ n < 0) (h2 : n ≤ if σ 1 1 < lg then σ 1 1 else lg) : MV l G y_DL_openText prog_1_method_40_code 3 4 [.ref (G.1 0), .int n, .int lg] σ (opn σ n) := by
  refine MV.of hG (by decide) (Nat.le_of_ble_eq_true rfl) (fun X hx hq => ?_)
  show J l G X 3 σ 0 [(0, .ref (G.1 0)), (1, .int n), (2, .int lg)] []
  refine j_aload_n hx d_DL_openText_0 rfl 0 rfl ?_
  refine j_iload_n hx d_DL_openText_1 rfl 1 rfl ?_
  refine j_iconst (v := 0) hx d_DL_openText_2 (by decide) ?_
  refine j_iload_n hx d_DL_openText_3 rfl 2 rfl ?_
  refine j_aload_n hx d_DL_openText_4 rfl 0 rfl ?_
  refine j_get hx ck_DL 0 (by decide) t_326 (by decide) (sh_0 _ _) rfl d_DL_openText_5 ?_
  refine j_callVi hx (c_Tape_held hG σ) mo_Tape_held mv_Tape_held t_382 (by decide) rfl (by decide) (sh_1 _ _) rfl rfl (Nat.le_of_ble_eq_true rfl) d_DL_openText_8 ?_
  refine j_mmin hx t_561 (by decide) (Nat.le_of_ble_eq_true rfl) d_DL_openText_11 ?_
  refine j_callVv hx (c_DL_needWithin hG σ n 0 (if (σ 1 1) < lg then (σ 1 1) else lg) (by exact h1) (by exact h2)) mo_DL_needWithin mv_DL_needWithin t_562 (by decide) rfl (by decide) (sh_0 _ _) rfl rfl (Nat.le_of_ble_eq_true rfl) d_DL_openText_14 ?_
  refine j_aload_n hx d_DL_openText_17 rfl 0 rfl ?_
  refine j_get hx ck_DL 0 (by decide) t_326 (by decide) (sh_0 _ _) rfl d_DL_openText_18 ?_
  refine j_iload_n hx d_DL_openText_21 rfl 1 rfl ?_
  refine j_callVv hx (c_Tape_open hG σ n) mo_Tape_open mv_Tape_open t_633 (by decide) rfl (by decide) (sh_1 _ _) rfl rfl (Nat.le_of_ble_eq_true rfl) d_DL_openText_22 ?_
  exact j_vret hx hq d_DL_openText_25 (by first | (rfl) | fail)

