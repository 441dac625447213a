theorem plP_0 {s : St} {c r : Int32} : plP s c r 0 = s := by unfold plP; rw [it_0]
theorem plC_0 {s : St} {r : Int32} : plC s r 0 = s := by unfold plC; rw [it_0]
theorem wnN_0 {s : St} : wnN s 0 = s := by unfold wnN; rw [it_0]

set_option maxRecDepth 20000 in
set_option maxHeartbeats 4000000 in
theorem c_Plans_placeLamp {l : Launch} {G : Gz} (hG : zI G) (σ : St) : MV l G y_Plans_placeLamp prog_8_method_11_code 9 7 [.ref (G.1 93), .ref (G.1 4), .ref (G.1 50), .ref (G.1 81), .ref (G.1 84)] σ (plS σ) := by
  refine MV.of hG (by decide) (Nat.le_of_ble_eq_true rfl) (fun X hx hq => ?_)
  show J l G X 9 σ 0 [(0, .ref (G.1 93)), (1, .ref (G.1 4)), (2, .ref (G.1 50)), (3, .ref (G.1 81)), (4, .ref (G.1 84))] []
  refine j_aload hx d_Plans_placeLamp_0 4 rfl ?_
  refine j_aload_n hx d_Plans_placeLamp_2 rfl 1 rfl ?_
  refine j_aload_n hx d_Plans_placeLamp_3 rfl 2 rfl ?_
  refine j_aload_n hx d_Plans_placeLamp_4 rfl 3 rfl ?_
  refine j_callVv hx (c_Passing_begin hG isNights_81 σ) mo_Passing_begin mv_Passing_begin t_1099 (by decide) rfl (by decide) (sh_84 _ _) rfl rfl (Nat.le_of_ble_eq_true rfl) d_Plans_placeLamp_5 ?_
  obtain ⟨s9_1, eg_1⟩ : ∃ z : St, z = pbS σ 81 := ⟨_, rfl⟩
  refine J.to (σ' := s9_1) (by rw [eg_1]; first | done | rfl) rfl ?_
  refine j_iconst (v := 0) hx d_Plans_placeLamp_8 (by decide) ?_
  refine j_istore hx [(5, .int 0), (0, .ref (G.1 93)), (1, .ref (G.1 4)), (2, .ref (G.1 50)), (3, .ref (G.1 81)), (4, .ref (G.1 84))] d_Plans_placeLamp_9 (by decide) rfl ?_
  have hl11 : ∀ (N9 : Nat) (i : Nat), (i ≤ (ct (cM s9_1 0))) → (ct (cM s9_1 0)) - i = N9 → J l G X 9 (wnN s9_1 i) 11 [(0, .ref (G.1 93)), (1, .ref (G.1 4)), (2, .ref (G.1 50)), (3, .ref (G.1 81)), (4, .ref (G.1 84)), (5, .int (nI i))] [] := by
    intro N9
    induction N9 using Nat.strongRecOn with
    | _ N9 ih11 =>
      intro i hi_i hm11
      refine j_iload hx d_Plans_placeLamp_11 5 rfl ?_
      refine j_aload_n hx d_Plans_placeLamp_13 rfl 1 rfl ?_
      refine j_get hx ck_Coast 0 (by decide) t_86 (by decide) (sh_4 _ _) rfl d_Plans_placeLamp_14 ?_
      refine j_iconst (v := 0) hx d_Plans_placeLamp_17 (by decide) ?_
      refine j_callVi hx (c_Row_getA hG ir_5 6 rfl (wnN s9_1 i) 0) mo_Row_get mv_Row_get t_1098 (by decide) rfl (by decide) (sh_5 _ _) rfl rfl (Nat.le_of_ble_eq_true rfl) d_Plans_placeLamp_18 ?_
      refine j_icmp_ge (tgt := 46) hx d_Plans_placeLamp_21 (by decide) (fun zc21 => ?_) (fun zc21 => ?_)
      · skip
        obtain rfl := ct_end' hi_i (by have q9 := zc21; rw [wnN_o (by decide)] at q9; exact q9)
        obtain ⟨s9_2, eg_2⟩ : ∃ z : St, z = pm0 σ := ⟨_, rfl⟩
        refine J.to (σ' := s9_2) (by rw [eg_2]; rw [eg_1]; rfl) rfl ?_
        refine j_aload_n hx d_Plans_placeLamp_46 rfl 3 rfl ?_
        refine j_aload_n hx d_Plans_placeLamp_47 rfl 1 rfl ?_
        refine j_callVi hx (c_Nights_reach hG isNights_81 s9_2) mo_Nights_reach mv_Nights_reach t_1104 (by decide) rfl (by decide) (sh_81 _ _) rfl rfl (Nat.le_of_ble_eq_true rfl) d_Plans_placeLamp_48 ?_
        refine j_istore hx [(5, .int (rch s9_2 81)), (0, .ref (G.1 93)), (1, .ref (G.1 4)), (2, .ref (G.1 50)), (3, .ref (G.1 81)), (4, .ref (G.1 84))] d_Plans_placeLamp_51 (by decide) rfl ?_
        refine j_aload_n hx d_Plans_placeLamp_53 rfl 1 rfl ?_
        refine j_iconst (v := (-1)) hx d_Plans_placeLamp_54 (by decide) ?_
        refine j_put hx ck_Plans 2 (by decide) t_265 (by decide) (sh_93 _ _) rfl (Nat.le_of_ble_eq_true rfl) (sh_93 _ _) d_Plans_placeLamp_55 ?_
        obtain ⟨s9_3, eg_3⟩ : ∃ z : St, z = up s9_2 93 2 (-1) := ⟨_, rfl⟩
        refine J.to (σ' := s9_3) (by rw [eg_3]; first | done | rfl) rfl ?_
        refine j_iconst (v := 0) hx d_Plans_placeLamp_58 (by decide) ?_
        refine j_istore hx [(6, .int 0), (5, .int (rch s9_2 81)), (0, .ref (G.1 93)), (1, .ref (G.1 4)), (2, .ref (G.1 50)), (3, .ref (G.1 81)), (4, .ref (G.1 84))] d_Plans_placeLamp_59 (by decide) rfl ?_
        have hl61 : ∀ (N9 : Nat) (c : Nat), (c ≤ (ct (cM s9_3 0))) → (ct (cM s9_3 0)) - c = N9 → J l G X 9 (plC s9_3 (rch s9_2 81) c) 61 [(0, .ref (G.1 93)), (1, .ref (G.1 4)), (2, .ref (G.1 50)), (3, .ref (G.1 81)), (4, .ref (G.1 84)), (5, .int (rch s9_2 81)), (6, .int (nI c))] [] := by
          intro N9
          induction N9 using Nat.strongRecOn with
          | _ N9 ih61 =>
            intro c hi_c hm61
            refine j_iload hx d_Plans_placeLamp_61 6 rfl ?_
            refine j_aload_n hx d_Plans_placeLamp_63 rfl 1 rfl ?_
            refine j_get hx ck_Coast 0 (by decide) t_86 (by decide) (sh_4 _ _) rfl d_Plans_placeLamp_64 ?_
            refine j_iconst (v := 0) hx d_Plans_placeLamp_67 (by decide) ?_
            refine j_callVi hx (c_Row_getA hG ir_5 6 rfl (plC s9_3 (rch s9_2 81) c) 0) mo_Row_get mv_Row_get t_1098 (by decide) rfl (by decide) (sh_5 _ _) rfl rfl (Nat.le_of_ble_eq_true rfl) d_Plans_placeLamp_68 ?_
            refine j_icmp_ge (tgt := 145) hx d_Plans_placeLamp_71 (by decide) (fun zc71 => ?_) (fun zc71 => ?_)
            · skip
              obtain rfl := ct_end' hi_c (by have q9 := zc71; rw [plC_6] at q9; exact q9)
              exact j_vret hx hq d_Plans_placeLamp_145 (by first | (rw [eg_3, eg_2]; rfl) | fail)
            · skip
              have hlt61 := ct_go hi_c (by have q9 := zc71; rw [plC_6] at q9; exact q9)
              refine j_iconst (v := 1) hx d_Plans_placeLamp_74 (by decide) ?_
              refine j_istore hx [(7, .int 1), (0, .ref (G.1 93)), (1, .ref (G.1 4)), (2, .ref (G.1 50)), (3, .ref (G.1 81)), (4, .ref (G.1 84)), (5, .int (rch s9_2 81)), (6, .int (nI c))] d_Plans_placeLamp_75 (by decide) rfl ?_
              have hl77 : ∀ (N9 : Nat) (p : Nat), (p ≤ 9) → 9 - p = N9 → J l G X 9 (plP (plC s9_3 (rch s9_2 81) c) (nI c) (rch s9_2 81) p) 77 [(0, .ref (G.1 93)), (1, .ref (G.1 4)), (2, .ref (G.1 50)), (3, .ref (G.1 81)), (4, .ref (G.1 84)), (5, .int (rch s9_2 81)), (6, .int (nI c)), (7, .int (nI (p + 1)))] [] := by
                intro N9
                induction N9 using Nat.strongRecOn with
                | _ N9 ih77 =>
                  intro p hi_p hm77
                  refine j_iload hx d_Plans_placeLamp_77 7 rfl ?_
                  refine j_bipush (v := 9) hx d_Plans_placeLamp_79 (by decide) ?_
                  refine j_icmp_gt (tgt := 139) hx d_Plans_placeLamp_81 (by decide) (fun zc81 => ?_) (fun zc81 => ?_)
                  · skip
                    obtain rfl := gt_end (n := 9) hi_p (by decide) zc81
                    refine j_iinc hx [(6, .int ((nI c) + 1)), (0, .ref (G.1 93)), (1, .ref (G.1 4)), (2, .ref (G.1 50)), (3, .ref (G.1 81)), (4, .ref (G.1 84)), (5, .int (rch s9_2 81)), (7, .int (nI (9 + 1)))] d_Plans_placeLamp_139 6 rfl rfl (by decide) rfl ?_
                    refine j_goto (tgt := 61) hx d_Plans_placeLamp_142 (by decide) ?_
                    refine J.lsub (ls' := [(0, .ref (G.1 93)), (1, .ref (G.1 4)), (2, .ref (G.1 50)), (3, .ref (G.1 81)), (4, .ref (G.1 84)), (5, .int (rch s9_2 81)), (6, .int ((nI c) + 1))]) [1, 2, 3, 4, 5, 6, 0] rfl ?_
                    refine J.to ?_ ?_ (ih61 _ ?_ (c + 1) hlt61 rfl)
                    · first | (exact (plC_q.trans plQ_p).symm) | fail
                    · first | (first | rfl | (simp only [nI_s]; done) | (simp only [nI_s, it_s]; done) | (simp [nI_s, it_s, zc21, zc71, zc81]; done)) | fail
                    · first | (omega) | fail
                  · skip
                    have hlt77 := gt_go (n := 9) hi_p (by decide) zc81
                    refine j_aload_n hx d_Plans_placeLamp_84 rfl 0 rfl ?_
                    refine j_aload_n hx d_Plans_placeLamp_85 rfl 1 rfl ?_
                    refine j_aload hx d_Plans_placeLamp_86 4 rfl ?_
                    refine j_iload hx d_Plans_placeLamp_88 6 rfl ?_
                    refine j_iload hx d_Plans_placeLamp_90 7 rfl ?_
                    refine j_iload hx d_Plans_placeLamp_92 5 rfl ?_
                    refine j_callVv hx (c_Plans_showLamp hG (plP (plC s9_3 (rch s9_2 81) c) (nI c) (rch s9_2 81) p) (nI c) (nI (p + 1)) (rch s9_2 81)) mo_Plans_showLamp mv_Plans_showLamp t_1156 (by decide) rfl (by decide) (sh_93 _ _) rfl rfl (Nat.le_of_ble_eq_true rfl) d_Plans_placeLamp_94 ?_
                    obtain ⟨s9_4, eg_4⟩ : ∃ z : St, z = shL (plP (plC s9_3 (rch s9_2 81) c) (nI c) (rch s9_2 81) p) (nI c) (nI (p + 1)) (rch s9_2 81) := ⟨_, rfl⟩
                    refine J.to (σ' := s9_4) (by rw [eg_4]; first | done | rfl) rfl ?_
                    refine j_aload_n hx d_Plans_placeLamp_97 rfl 1 rfl ?_
                    refine j_aload_n hx d_Plans_placeLamp_98 rfl 2 rfl ?_
                    refine j_aload hx d_Plans_placeLamp_99 4 rfl ?_
                    refine j_callSi hx (c_Plans_safeShips hG s9_4) mo_Plans_safeShips t_1161 t_1160 (by decide) rfl rfl (Nat.le_of_ble_eq_true rfl) d_Plans_placeLamp_101 ?_
                    refine j_istore hx [(8, .int ((sfF s9_4 (ct (cM s9_4 3))).1)), (0, .ref (G.1 93)), (1, .ref (G.1 4)), (2, .ref (G.1 50)), (3, .ref (G.1 81)), (4, .ref (G.1 84)), (5, .int (rch s9_2 81)), (6, .int (nI c)), (7, .int (nI (p + 1)))] d_Plans_placeLamp_104 (by decide) rfl ?_
                    refine j_iload hx d_Plans_placeLamp_106 0 rfl ?_
                    refine j_aload_n hx d_Plans_placeLamp_108 rfl 1 rfl ?_
                    refine j_get hx ck_Plans 2 (by decide) t_265 (by decide) (sh_93 _ _) rfl d_Plans_placeLamp_109 ?_
                    refine j_icmp_le (tgt := 133) hx d_Plans_placeLamp_112 (by decide) (fun zc112 => ?_) (fun zc112 => ?_)
                    · skip
                      refine j_iinc hx [(7, .int ((nI (p + 1)) + 1)), (8, .int ((sfF s9_4 (ct (cM s9_4 3))).1)), (0, .ref (G.1 93)), (1, .ref (G.1 4)), (2, .ref (G.1 50)), (3, .ref (G.1 81)), (4, .ref (G.1 84)), (5, .int (rch s9_2 81)), (6, .int (nI c))] d_Plans_placeLamp_133 8 rfl rfl (by decide) rfl ?_
                      refine j_goto (tgt := 77) hx d_Plans_placeLamp_136 (by decide) ?_
                      refine J.lsub (ls' := [(0, .ref (G.1 93)), (1, .ref (G.1 4)), (2, .ref (G.1 50)), (3, .ref (G.1 81)), (4, .ref (G.1 84)), (5, .int (rch s9_2 81)), (6, .int (nI c)), (7, .int ((nI (p + 1)) + 1))]) [2, 3, 4, 5, 6, 7, 8, 0] rfl ?_
                      refine J.to ?_ ?_ (ih77 _ ?_ (p + 1) hlt77 rfl)
                      · first | (rw [eg_4] at zc112 ⊢; rw [plP_s]; unfold plZ; first | (rw [if_pos zc112]; done) | (rw [if_neg zc112]; done)) | fail
                      · first | (simp only [nI_s]) | fail
                      · first | (omega) | fail
                    · skip
                      refine j_aload_n hx d_Plans_placeLamp_115 rfl 1 rfl ?_
                      refine j_iload hx d_Plans_placeLamp_116 0 rfl ?_
                      refine j_put hx ck_Plans 2 (by decide) t_265 (by decide) (sh_93 _ _) rfl (Nat.le_of_ble_eq_true rfl) (sh_93 _ _) d_Plans_placeLamp_118 ?_
                      refine j_aload_n hx d_Plans_placeLamp_121 rfl 1 rfl ?_
                      refine j_iload hx d_Plans_placeLamp_122 7 rfl ?_
                      refine j_put hx ck_Plans 4 (by decide) t_267 (by decide) (sh_93 _ _) rfl (Nat.le_of_ble_eq_true rfl) (sh_93 _ _) d_Plans_placeLamp_124 ?_
                      refine j_aload_n hx d_Plans_placeLamp_127 rfl 1 rfl ?_
                      refine j_iload hx d_Plans_placeLamp_128 8 rfl ?_
                      refine j_put hx ck_Plans 5 (by decide) t_268 (by decide) (sh_93 _ _) rfl (Nat.le_of_ble_eq_true rfl) (sh_93 _ _) d_Plans_placeLamp_130 ?_
                      refine j_iinc hx [(7, .int ((nI (p + 1)) + 1)), (8, .int ((sfF s9_4 (ct (cM s9_4 3))).1)), (0, .ref (G.1 93)), (1, .ref (G.1 4)), (2, .ref (G.1 50)), (3, .ref (G.1 81)), (4, .ref (G.1 84)), (5, .int (rch s9_2 81)), (6, .int (nI c))] d_Plans_placeLamp_133 8 rfl rfl (by decide) rfl ?_
                      refine j_goto (tgt := 77) hx d_Plans_placeLamp_136 (by decide) ?_
                      refine J.lsub (ls' := [(0, .ref (G.1 93)), (1, .ref (G.1 4)), (2, .ref (G.1 50)), (3, .ref (G.1 81)), (4, .ref (G.1 84)), (5, .int (rch s9_2 81)), (6, .int (nI c)), (7, .int ((nI (p + 1)) + 1))]) [2, 3, 4, 5, 6, 7, 8, 0] rfl ?_
                      refine J.to ?_ ?_ (ih77 _ ?_ (p + 1) hlt77 rfl)
                      · first | (rw [eg_4] at zc112 ⊢; rw [plP_s]; unfold plZ; first | (rw [if_pos zc112]; done) | (rw [if_neg zc112]; done)) | fail
                      · first | (simp only [nI_s]) | fail
                      · first | (omega) | fail
              refine J.lsub (ls' := [(0, .ref (G.1 93)), (1, .ref (G.1 4)), (2, .ref (G.1 50)), (3, .ref (G.1 81)), (4, .ref (G.1 84)), (5, .int (rch s9_2 81)), (6, .int (nI c)), (7, .int 1)]) [1, 2, 3, 4, 5, 6, 7, 0] rfl ?_
              refine J.to ?_ ?_ (hl77 _ 0 (Nat.zero_le _) rfl)
              · first | (exact plP_0.symm) | fail
              · first | (first | rfl | (simp only [nI_s]; done) | (simp only [nI_s, it_s]; done) | (simp [nI_s, it_s, zc21, zc71]; done)) | fail
        refine J.lsub (ls' := [(0, .ref (G.1 93)), (1, .ref (G.1 4)), (2, .ref (G.1 50)), (3, .ref (G.1 81)), (4, .ref (G.1 84)), (5, .int (rch s9_2 81)), (6, .int 0)]) [2, 3, 4, 5, 6, 1, 0] rfl ?_
        refine J.to ?_ ?_ (hl61 _ 0 (Nat.zero_le _) rfl)
        · first | (exact plC_0.symm) | fail
        · first | (first | rfl | (simp only [nI_s]; done) | (simp only [nI_s, it_s]; done) | (simp [nI_s, it_s, zc21]; done)) | fail
      · skip
        have hlt11 := ct_go hi_i (by have q9 := zc21; rw [wnN_o (by decide)] at q9; exact q9)
        refine j_aload_n hx d_Plans_placeLamp_24 rfl 0 rfl ?_
        refine j_get hx ck_Plans 0 (by decide) t_263 (by decide) (sh_93 _ _) rfl d_Plans_placeLamp_25 ?_
        refine j_iload hx d_Plans_placeLamp_28 5 rfl ?_
        refine j_aload hx d_Plans_placeLamp_30 4 rfl ?_
        refine j_iload hx d_Plans_placeLamp_32 5 rfl ?_
        refine j_callVi hx (c_Passing_seenIn hG (wnN s9_1 i) (nI i)) mo_Passing_seenIn mv_Passing_seenIn t_1152 (by decide) rfl (by decide) (sh_84 _ _) rfl rfl (Nat.le_of_ble_eq_true rfl) d_Plans_placeLamp_34 ?_
        refine j_callVv hx (c_Row_set hG ir_94 (wnN s9_1 i) (nI i) (rg ((wnN s9_1 i) 86) 12 (nI i))) mo_Row_set mv_Row_set t_1106 (by decide) rfl (by decide) (sh_94 _ _) rfl rfl (Nat.le_of_ble_eq_true rfl) d_Plans_placeLamp_37 ?_
        refine j_iinc hx [(5, .int ((nI i) + 1)), (0, .ref (G.1 93)), (1, .ref (G.1 4)), (2, .ref (G.1 50)), (3, .ref (G.1 81)), (4, .ref (G.1 84))] d_Plans_placeLamp_40 5 rfl rfl (by decide) rfl ?_
        refine j_goto (tgt := 11) hx d_Plans_placeLamp_43 (by decide) ?_
        refine J.lsub (ls' := [(0, .ref (G.1 93)), (1, .ref (G.1 4)), (2, .ref (G.1 50)), (3, .ref (G.1 81)), (4, .ref (G.1 84)), (5, .int ((nI i) + 1))]) [1, 2, 3, 4, 5, 0] rfl ?_
        refine J.to ?_ ?_ (ih11 _ ?_ (i + 1) hlt11 rfl)
        · first | (rfl) | fail
        · first | (first | rfl | (simp only [nI_s]; done) | (simp only [nI_s, it_s]; done) | (simp [nI_s, it_s, zc21]; done)) | fail
        · first | (omega) | fail
  refine J.lsub (ls' := [(0, .ref (G.1 93)), (1, .ref (G.1 4)), (2, .ref (G.1 50)), (3, .ref (G.1 81)), (4, .ref (G.1 84)), (5, .int 0)]) [1, 2, 3, 4, 5, 0] rfl ?_
  refine J.to ?_ ?_ (hl11 _ 0 (Nat.zero_le _) rfl)
  · first | (rfl) | fail
  · first | (first | rfl | (simp only [nI_s]; done) | (simp only [nI_s, it_s]; done) | (simp [nI_s, it_s, ]; done)) | fail

