def xw1 (s : St) (n : Int32) : St := wkR (opn s n)
def xw2 (s : St) : St := up s 0 14 (s 74 6)
def xw3 (s : St) : St := xw2 (wrS (kwS s))
def xwS (s : St) (n : Int32) : St := if (opn s n) 102 3 < 16 then (if b2 ((wkR (opn s n)) 1 5 = 0) = 0 then wkR (opn s n) else xw2 (wrS (kwS (wkR (opn s n))))) else opn s n
def xwV (s : St) (n : Int32) : Int32 := if (opn s n) 102 3 < 16 then (if b2 ((wkR (opn s n)) 1 5 = 0) = 0 then (wkR (opn s n)) 1 5 - 10 else (xw2 (wrS (kwS (wkR (opn s n))))) 74 5) else -20

set_option maxRecDepth 20000 in
set_option maxHeartbeats 4000000 in
theorem c_DL_work {l : Launch} {G : Gz} (hG : zI G) (σ : St) (n : Int32) (h1 : ¬ n < 0) (h2 : n ≤ if σ 1 1 < 150 then σ 1 1 else 150) : MI l G y_DL_work prog_1_method_5_code 2 .int 80 [.ref (G.1 0), .int n] σ (xwV σ n) (xwS σ n) := by
  refine MI.of hG (by decide) (Nat.le_of_ble_eq_true rfl) (fun X hx hq => ?_)
  show J l G X 2 σ 0 [(0, .ref (G.1 0)), (1, .int n)] []
  refine j_aload_n hx d_DL_work_0 rfl 0 rfl ?_
  refine j_iload_n hx d_DL_work_1 rfl 1 rfl ?_
  refine j_sipush (v := 150) hx d_DL_work_2 (by decide) ?_
  refine j_callVv hx (c_DL_openText hG σ n 150 (by exact h1) (by exact h2)) mo_DL_openText mv_DL_openText t_557 (by decide) rfl (by decide) (sh_0 _ _) rfl rfl (Nat.le_of_ble_eq_true rfl) d_DL_work_5 ?_
  obtain ⟨s9_1, eg_1⟩ : ∃ z : St, z = opn σ n := ⟨_, rfl⟩
  refine J.to (σ' := s9_1) (by rw [eg_1]; first | done | rfl) rfl ?_
  refine j_aload_n hx d_DL_work_8 rfl 0 rfl ?_
  refine j_get hx ck_DL 12 (by decide) t_338 (by decide) (sh_0 _ _) rfl d_DL_work_9 ?_
  refine j_callVi hx (c_History_works hG s9_1) mo_History_works mv_History_works t_403 (by decide) rfl (by decide) (sh_102 _ _) rfl rfl (Nat.le_of_ble_eq_true rfl) d_DL_work_12 ?_
  refine j_bipush (v := 16) hx d_DL_work_15 (by decide) ?_
  refine j_icmp_lt (tgt := 23) hx d_DL_work_17 (by decide) (fun zc17 => ?_) (fun zc17 => ?_)
  · skip
    refine j_aload_n hx d_DL_work_23 rfl 0 rfl ?_
    refine j_get hx ck_DL 7 (by decide) t_333 (by decide) (sh_0 _ _) rfl d_DL_work_24 ?_
    refine j_aload_n hx d_DL_work_27 rfl 0 rfl ?_
    refine j_get hx ck_DL 0 (by decide) t_326 (by decide) (sh_0 _ _) rfl d_DL_work_28 ?_
    refine j_aload_n hx d_DL_work_31 rfl 0 rfl ?_
    refine j_get hx ck_DL 1 (by decide) t_327 (by decide) (sh_0 _ _) rfl d_DL_work_32 ?_
    refine j_callVv hx (c_Work_readFrom hG s9_1) mo_Work_readFrom mv_Work_readFrom t_831 (by decide) rfl (by decide) (sh_74 _ _) rfl rfl (Nat.le_of_ble_eq_true rfl) d_DL_work_35 ?_
    obtain ⟨s9_2, eg_2⟩ : ∃ z : St, z = wkR s9_1 := ⟨_, rfl⟩
    refine J.to (σ' := s9_2) (by rw [eg_2]; first | done | rfl) rfl ?_
    refine j_aload_n hx d_DL_work_38 rfl 0 rfl ?_
    refine j_get hx ck_DL 0 (by decide) t_326 (by decide) (sh_0 _ _) rfl d_DL_work_39 ?_
    refine j_callVi hx (c_Tape_fine hG s9_2) mo_Tape_fine mv_Tape_fine t_754 (by decide) rfl (by decide) (sh_1 _ _) rfl rfl (Nat.le_of_ble_eq_true rfl) d_DL_work_42 ?_
    refine j_if_ne (tgt := 56) hx d_DL_work_45 (by decide) (fun zc45 => ?_) (fun zc45 => ?_)
    · skip
      refine j_aload_n hx d_DL_work_56 rfl 0 rfl ?_
      refine j_get hx ck_DL 12 (by decide) t_338 (by decide) (sh_0 _ _) rfl d_DL_work_57 ?_
      refine j_aload_n hx d_DL_work_60 rfl 0 rfl ?_
      refine j_get hx ck_DL 8 (by decide) t_334 (by decide) (sh_0 _ _) rfl d_DL_work_61 ?_
      refine j_callVv hx (c_History_keepWork hG s9_2) mo_History_keepWork mv_History_keepWork t_861 (by decide) rfl (by decide) (sh_102 _ _) rfl rfl (Nat.le_of_ble_eq_true rfl) d_DL_work_64 ?_
      obtain ⟨s9_3, eg_3⟩ : ∃ z : St, z = kwS s9_2 := ⟨_, rfl⟩
      refine J.to (σ' := s9_3) (by rw [eg_3]; first | done | rfl) rfl ?_
      refine j_aload_n hx d_DL_work_67 rfl 0 rfl ?_
      refine j_get hx ck_DL 7 (by decide) t_333 (by decide) (sh_0 _ _) rfl d_DL_work_68 ?_
      refine j_aload_n hx d_DL_work_71 rfl 0 rfl ?_
      refine j_get hx ck_DL 1 (by decide) t_327 (by decide) (sh_0 _ _) rfl d_DL_work_72 ?_
      refine j_aload_n hx d_DL_work_75 rfl 0 rfl ?_
      refine j_get hx ck_DL 3 (by decide) t_329 (by decide) (sh_0 _ _) rfl d_DL_work_76 ?_
      refine j_aload_n hx d_DL_work_79 rfl 0 rfl ?_
      refine j_get hx ck_DL 8 (by decide) t_334 (by decide) (sh_0 _ _) rfl d_DL_work_80 ?_
      refine j_aload_n hx d_DL_work_83 rfl 0 rfl ?_
      refine j_get hx ck_DL 9 (by decide) t_335 (by decide) (sh_0 _ _) rfl d_DL_work_84 ?_
      refine j_callVv hx (c_Work_run hG s9_3) mo_Work_run mv_Work_run t_865 (by decide) rfl (by decide) (sh_74 _ _) rfl rfl (Nat.le_of_ble_eq_true rfl) d_DL_work_87 ?_
      obtain ⟨s9_4, eg_4⟩ : ∃ z : St, z = wrS s9_3 := ⟨_, rfl⟩
      refine J.to (σ' := s9_4) (by rw [eg_4]; first | done | rfl) rfl ?_
      refine j_aload_n hx d_DL_work_90 rfl 0 rfl ?_
      refine j_aload_n hx d_DL_work_91 rfl 0 rfl ?_
      refine j_get hx ck_DL 7 (by decide) t_333 (by decide) (sh_0 _ _) rfl d_DL_work_92 ?_
      refine j_callVi hx (c_Work_refused hG s9_4) mo_Work_refused mv_Work_refused t_927 (by decide) rfl (by decide) (sh_74 _ _) rfl rfl (Nat.le_of_ble_eq_true rfl) d_DL_work_95 ?_
      refine j_put hx ck_DL 14 (by decide) t_340 (by decide) (sh_0 _ _) rfl (Nat.le_of_ble_eq_true rfl) (sh_0 _ _) d_DL_work_98 ?_
      obtain ⟨s9_5, eg_5⟩ : ∃ z : St, z = xw2 s9_4 := ⟨_, rfl⟩
      refine J.to (σ' := s9_5) (by rw [eg_5]; first | done | rfl) rfl ?_
      refine j_aload_n hx d_DL_work_101 rfl 0 rfl ?_
      refine j_get hx ck_DL 7 (by decide) t_333 (by decide) (sh_0 _ _) rfl d_DL_work_102 ?_
      refine j_callVi hx (c_Work_done hG s9_5) mo_Work_done mv_Work_done t_931 (by decide) rfl (by decide) (sh_74 _ _) rfl rfl (Nat.le_of_ble_eq_true rfl) d_DL_work_105 ?_
      exact j_iret hx hq rfl d_DL_work_108 (by first | (rw [eg_1] at zc17; rw [eg_2, eg_1] at zc45; rw [eg_5, eg_4, eg_3, eg_2, eg_1]; unfold xwV; rw [if_pos zc17]; exact (if_neg zc45).symm) | fail) (by first | (rw [eg_1] at zc17; rw [eg_2, eg_1] at zc45; rw [eg_5, eg_4, eg_3, eg_2, eg_1]; unfold xwS; rw [if_pos zc17]; exact (if_neg zc45).symm) | fail)
    · skip
      refine j_aload_n hx d_DL_work_48 rfl 0 rfl ?_
      refine j_get hx ck_DL 0 (by decide) t_326 (by decide) (sh_0 _ _) rfl d_DL_work_49 ?_
      refine j_callVi hx (c_Tape_answer hG s9_2) mo_Tape_answer mv_Tape_answer t_755 (by decide) rfl (by decide) (sh_1 _ _) rfl rfl (Nat.le_of_ble_eq_true rfl) d_DL_work_52 ?_
      exact j_iret hx hq rfl d_DL_work_55 (by first | (rw [eg_1] at zc17; rw [eg_2, eg_1] at zc45 ⊢; unfold xwV; rw [if_pos zc17]; exact (if_pos zc45).symm) | fail) (by first | (rw [eg_1] at zc17; rw [eg_2, eg_1] at zc45 ⊢; unfold xwS; rw [if_pos zc17]; exact (if_pos zc45).symm) | fail)
  · skip
    refine j_bipush (v := (-20)) hx d_DL_work_20 (by decide) ?_
    exact j_iret hx hq rfl d_DL_work_22 (by first | (rw [eg_1] at zc17; exact (if_neg zc17).symm) | fail) (by first | (rw [eg_1] at zc17 ⊢; exact (if_neg zc17).symm) | fail)

