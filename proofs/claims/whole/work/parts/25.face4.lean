
set_option maxRecDepth 20000 in
set_option maxHeartbeats 4000000 in
theorem c_DL_code {l : Launch} {G : Gz} (hG : zI G) (σ : St) (n : Int32) (w : Int32) (a0 : ¬ n < 1) (b0 : n ≤ 8) (a1 : ¬ w < 0) (b1 : w ≤ 1) : MI l G y_DL_code prog_1_method_22_code 3 .int 6 [.ref (G.1 0), .int n, .int w] σ (if w = 0 then 1 <<< (n &&& 31) - sm ((mmS σ n) 110) 256 else fuF (mmS σ n) (ct (1 <<< (n &&& 31)))) (mmS σ n) := by
  refine MI.of hG (by decide) (Nat.le_of_ble_eq_true rfl) (fun X hx hq => ?_)
  show J l G X 3 σ 0 [(0, .ref (G.1 0)), (1, .int n), (2, .int w)] []
  refine j_aload_n hx d_DL_code_0 rfl 0 rfl ?_
  refine j_iload_n hx d_DL_code_1 rfl 1 rfl ?_
  refine j_iconst (v := 1) hx d_DL_code_2 (by decide) ?_
  refine j_bipush (v := 8) hx d_DL_code_3 (by decide) ?_
  refine j_callVv hx (c_DL_needWithin hG σ n 1 8 (by exact a0) (by exact b0)) mo_DL_needWithin mv_DL_needWithin t_562 (by decide) rfl (by decide) (sh_0 _ _) rfl rfl (Nat.le_of_ble_eq_true rfl) d_DL_code_5 ?_
  refine j_aload_n hx d_DL_code_8 rfl 0 rfl ?_
  refine j_iload_n hx d_DL_code_9 rfl 2 rfl ?_
  refine j_iconst (v := 0) hx d_DL_code_10 (by decide) ?_
  refine j_iconst (v := 1) hx d_DL_code_11 (by decide) ?_
  refine j_callVv hx (c_DL_needWithin hG σ w 0 1 (by exact a1) (by exact b1)) mo_DL_needWithin mv_DL_needWithin t_562 (by decide) rfl (by decide) (sh_0 _ _) rfl rfl (Nat.le_of_ble_eq_true rfl) d_DL_code_12 ?_
  refine j_aload_n hx d_DL_code_15 rfl 0 rfl ?_
  refine j_get hx ck_DL 1 (by decide) t_327 (by decide) (sh_0 _ _) rfl d_DL_code_16 ?_
  refine j_iload_n hx d_DL_code_19 rfl 1 rfl ?_
  refine j_aload_n hx d_DL_code_20 rfl 0 rfl ?_
  refine j_get hx ck_DL 13 (by decide) t_339 (by decide) (sh_0 _ _) rfl d_DL_code_21 ?_
  refine j_callVv hx (c_Coast_markMadeRows hG σ n) mo_Coast_markMadeRows mv_Coast_markMadeRows t_503 (by decide) rfl (by decide) (sh_4 _ _) rfl rfl (Nat.le_of_ble_eq_true rfl) d_DL_code_24 ?_
  obtain ⟨s9_1, eg_1⟩ : ∃ z : St, z = mmS σ n := ⟨_, rfl⟩
  refine J.to (σ' := s9_1) (by rw [eg_1]; first | done | rfl) rfl ?_
  refine j_iload_n hx d_DL_code_27 rfl 2 rfl ?_
  refine j_if_ne (tgt := 45) hx d_DL_code_28 (by decide) (fun zc28 => ?_) (fun zc28 => ?_)
  · skip
    refine j_aload_n hx d_DL_code_45 rfl 0 rfl ?_
    refine j_iload_n hx d_DL_code_46 rfl 1 rfl ?_
    refine j_callVi hx (c_DL_firstUnmade hG s9_1 n) mo_DL_firstUnmade mv_DL_firstUnmade t_515 (by decide) rfl (by decide) (sh_0 _ _) rfl rfl (Nat.le_of_ble_eq_true rfl) d_DL_code_47 ?_
    exact j_iret hx hq rfl d_DL_code_50 (by first | (rw [eg_1]; first | exact (if_pos zc28).symm | exact (if_neg zc28).symm) | fail) (by first | (rw [eg_1]) | fail)
  · skip
    refine j_iconst (v := 1) hx d_DL_code_31 (by decide) ?_
    refine j_iload_n hx d_DL_code_32 rfl 1 rfl ?_
    refine j_ishl hx d_DL_code_33 ?_
    refine j_aload_n hx d_DL_code_34 rfl 0 rfl ?_
    refine j_get hx ck_DL 13 (by decide) t_339 (by decide) (sh_0 _ _) rfl d_DL_code_35 ?_
    refine j_callVi hx (c_Row_sum hG ir_109 s9_1) mo_Row_sum mv_Row_sum t_1215 (by decide) rfl (by decide) (sh_109 _ _) rfl rfl (Nat.le_of_ble_eq_true rfl) d_DL_code_38 ?_
    refine j_isub hx d_DL_code_41 ?_
    refine j_goto (tgt := 50) hx d_DL_code_42 (by decide) ?_
    exact j_iret hx hq rfl d_DL_code_50 (by first | (rw [eg_1]; first | exact (if_pos zc28).symm | exact (if_neg zc28).symm) | fail) (by first | (rw [eg_1]) | fail)

