def coR (σ : St) (way : Int32) (n : Nat) : Int32 × Int32 := it (fun j z => (z.1 ||| (lft z.2 (cM σ 0) <<< ((4 * (nI (ct (cM σ 2) - j) - 1)) &&& 31)), cutz z.2 (cM σ 0))) (0, way) n
def coC (σ : St) (way : Int32) : Int32 := (coR σ way (ct (cM σ 2))).1
theorem coz_dec : ∀ k, k < 3 → nI (k + 1) - 1 + (-1) = nI k - 1 := by decide
theorem co_lt : ∀ k, k < 4 → (nI k - 1 < 0 ↔ k = 0) := by decide
theorem co_s {D j : Nat} (h : j < D) (hD : D ≤ 3) : nI (D - j) - 1 + (-1) = nI (D - (j + 1)) - 1 := by
  rw [show D - j = (D - (j + 1)) + 1 by omega]; exact coz_dec _ (by omega)
theorem co_end {D j : Nat} (hj : j ≤ D) (hD : D ≤ 3) (h : nI (D - j) - 1 < 0) : D = j := by
  have := (co_lt (D - j) (by omega)).mp h; omega
theorem co_go {D j : Nat} (hD : D ≤ 3) (h : ¬ nI (D - j) - 1 < 0) : j < D := by
  have : ¬ D - j = 0 := fun z => h ((co_lt (D - j) (by omega)).mpr z)
  omega
theorem lkM_s {s : St} {p r : Int32} {c n : Nat} : lkM s p r c (n + 1) = lkM s p r c n ||| (if iSn (lka s c n) p (nI n) (nI n) r then 1 <<< (nI n &&& 31) else 0) := rfl
def stF (σ : St) (n : Nat) : Option Int32 × St := it (fun k z => match z.1 with
  | some x => (some x, z.2)
  | none => (if fuF (mmS z.2 (nI (k + 1))) (ct (1 <<< (nI (k + 1) &&& 31))) = -1 then none else some (nI (k + 1)), mmS z.2 (nI (k + 1)))) (none, σ) n
theorem stF_1 {σ s : St} {i : Nat} (h : stF σ i = (none, s)) (h1 : fuF (mmS s (nI (i + 1))) (ct (1 <<< (nI (i + 1) &&& 31))) = -1) : stF σ (i + 1) = (none, mmS s (nI (i + 1))) := by
  unfold stF at *; rw [it_s, h]; simp only []; rw [if_pos h1]
theorem stF_2 {σ s : St} {i : Nat} (h : stF σ i = (none, s)) (h1 : ¬ fuF (mmS s (nI (i + 1))) (ct (1 <<< (nI (i + 1) &&& 31))) = -1) : stF σ (i + 1) = (some (nI (i + 1)), mmS s (nI (i + 1))) := by
  unfold stF at *; rw [it_s, h]; simp only []; rw [if_neg h1]
theorem stF_m {σ s : St} {i n : Nat} {x : Int32} (h : stF σ i = (some x, s)) (hn : i ≤ n) : stF σ n = (some x, s) := by
  induction n with
  | zero => rw [show i = 0 by omega] at h; exact h
  | succ n ih =>
    rcases Nat.lt_or_ge n i with q | q
    · rw [show n + 1 = i by omega]; exact h
    · have h2 := ih q
      unfold stF at *; rw [it_s, h2]
theorem pwr_s {b : Int32} {n : Nat} : pwr b (n + 1) = pwr b n * b.toInt64 := rfl

set_option maxRecDepth 20000 in
set_option maxHeartbeats 4000000 in
theorem c_Plans_lookWithoutDonkeys {l : Launch} {G : Gz} (hG : zI G) (σ : St) : MV l G y_Plans_lookWithoutDonkeys prog_8_method_7_code 10 4 [.ref (G.1 93), .ref (G.1 4), .ref (G.1 81)] σ (lkS σ) := by
  refine MV.of hG (by decide) (Nat.le_of_ble_eq_true rfl) (fun X hx hq => ?_)
  show J l G X 10 σ 0 [(0, .ref (G.1 93)), (1, .ref (G.1 4)), (2, .ref (G.1 81))] []
  refine j_aload_n hx d_Plans_lookWithoutDonkeys_0 rfl 2 rfl ?_
  refine j_aload_n hx d_Plans_lookWithoutDonkeys_1 rfl 1 rfl ?_
  refine j_callVi hx (c_Nights_reach hG isNights_81 σ) mo_Nights_reach mv_Nights_reach t_1104 (by decide) rfl (by decide) (sh_81 _ _) rfl rfl (Nat.le_of_ble_eq_true rfl) d_Plans_lookWithoutDonkeys_2 ?_
  refine j_istore_n hx [(3, .int (rch σ 81)), (0, .ref (G.1 93)), (1, .ref (G.1 4)), (2, .ref (G.1 81))] d_Plans_lookWithoutDonkeys_5 rfl (by decide) rfl ?_
  refine j_iconst (v := 0) hx d_Plans_lookWithoutDonkeys_6 (by decide) ?_
  refine j_istore hx [(4, .int 0), (3, .int (rch σ 81)), (0, .ref (G.1 93)), (1, .ref (G.1 4)), (2, .ref (G.1 81))] d_Plans_lookWithoutDonkeys_7 (by decide) rfl ?_
  have hl9 : ∀ (N9 : Nat) (i : Nat), (i ≤ (ct (cM σ 0))) → (ct (cM σ 0)) - i = N9 → J l G X 10 (lk1 σ (rch σ 81) i) 9 [(0, .ref (G.1 93)), (1, .ref (G.1 4)), (2, .ref (G.1 81)), (3, .int (rch σ 81)), (4, .int (nI i))] [] := by
    intro N9
    induction N9 using Nat.strongRecOn with
    | _ N9 ih9 =>
      intro i hi_i hm9
      refine j_iload hx d_Plans_lookWithoutDonkeys_9 4 rfl ?_
      refine j_aload_n hx d_Plans_lookWithoutDonkeys_11 rfl 1 rfl ?_
      refine j_get hx ck_Coast 0 (by decide) t_86 (by decide) (sh_4 _ _) rfl d_Plans_lookWithoutDonkeys_12 ?_
      refine j_iconst (v := 0) hx d_Plans_lookWithoutDonkeys_15 (by decide) ?_
      refine j_callVi hx (c_Row_getA hG ir_5 6 rfl (lk1 σ (rch σ 81) i) 0) mo_Row_get mv_Row_get t_1098 (by decide) rfl (by decide) (sh_5 _ _) rfl rfl (Nat.le_of_ble_eq_true rfl) d_Plans_lookWithoutDonkeys_16 ?_
      refine j_icmp_ge (tgt := 47) hx d_Plans_lookWithoutDonkeys_19 (by decide) (fun zc19 => ?_) (fun zc19 => ?_)
      · skip
        obtain rfl := ct_end' hi_i (by have q9 := zc19; rw [lk1_o (by decide)] at q9; exact q9)
        obtain ⟨s9_1, eg_1⟩ : ∃ z : St, z = lk1 σ (rch σ 81) (ct (cM σ 0)) := ⟨_, rfl⟩
        refine J.to (σ' := s9_1) (by rw [eg_1]; first | done | rfl) rfl ?_
        refine j_iconst (v := 0) hx d_Plans_lookWithoutDonkeys_47 (by decide) ?_
        refine j_istore hx [(4, .int 0), (0, .ref (G.1 93)), (1, .ref (G.1 4)), (2, .ref (G.1 81)), (3, .int (rch σ 81))] d_Plans_lookWithoutDonkeys_48 (by decide) rfl ?_
        have hl50 : ∀ (N9 : Nat) (d : Nat), (d ≤ (ct (cM s9_1 2))) → (ct (cM s9_1 2)) - d = N9 → J l G X 10 (lkD s9_1 (rch σ 81) d) 50 [(0, .ref (G.1 93)), (1, .ref (G.1 4)), (2, .ref (G.1 81)), (3, .int (rch σ 81)), (4, .int (nI d))] [] := by
          intro N9
          induction N9 using Nat.strongRecOn with
          | _ N9 ih50 =>
            intro d hi_d hm50
            refine j_iload hx d_Plans_lookWithoutDonkeys_50 4 rfl ?_
            refine j_aload_n hx d_Plans_lookWithoutDonkeys_52 rfl 1 rfl ?_
            refine j_get hx ck_Coast 0 (by decide) t_86 (by decide) (sh_4 _ _) rfl d_Plans_lookWithoutDonkeys_53 ?_
            refine j_iconst (v := 2) hx d_Plans_lookWithoutDonkeys_56 (by decide) ?_
            refine j_callVi hx (c_Row_getA hG ir_5 6 rfl (lkD s9_1 (rch σ 81) d) 2) mo_Row_get mv_Row_get t_1098 (by decide) rfl (by decide) (sh_5 _ _) rfl rfl (Nat.le_of_ble_eq_true rfl) d_Plans_lookWithoutDonkeys_57 ?_
            refine j_icmp_ge (tgt := 192) hx d_Plans_lookWithoutDonkeys_60 (by decide) (fun zc60 => ?_) (fun zc60 => ?_)
            · skip
              obtain rfl := ct_end' hi_d (by have q9 := zc60; rw [lkD_o (by decide)] at q9; exact q9)
              exact j_vret hx hq d_Plans_lookWithoutDonkeys_192 (by first | (rw [eg_1]; unfold lkS; rw [show cM (lk1 σ (rch σ 81) (ct (cM σ 0))) 2 = cM σ 2 from by unfold cM; rw [lk1_o (by decide)]]) | fail)
            · skip
              have hlt50 := ct_go hi_d (by have q9 := zc60; rw [lkD_o (by decide)] at q9; exact q9)
              refine j_aload_n hx d_Plans_lookWithoutDonkeys_63 rfl 1 rfl ?_
              refine j_get hx ck_Coast 5 (by decide) t_100 (by decide) (sh_4 _ _) rfl d_Plans_lookWithoutDonkeys_64 ?_
              refine j_iload hx d_Plans_lookWithoutDonkeys_67 4 rfl ?_
              refine j_callVi hx (c_Row_getA hG ir_15 16 rfl (lkD s9_1 (rch σ 81) d) (nI d)) mo_Row_get mv_Row_get t_1098 (by decide) rfl (by decide) (sh_15 _ _) rfl rfl (Nat.le_of_ble_eq_true rfl) d_Plans_lookWithoutDonkeys_69 ?_
              refine j_istore hx [(5, .int (rg ((lkD s9_1 (rch σ 81) d) (15 + 1)) 3 (nI d))), (0, .ref (G.1 93)), (1, .ref (G.1 4)), (2, .ref (G.1 81)), (3, .int (rch σ 81)), (4, .int (nI d))] d_Plans_lookWithoutDonkeys_72 (by decide) rfl ?_
              refine j_iconst (v := 0) hx d_Plans_lookWithoutDonkeys_74 (by decide) ?_
              refine j_istore hx [(6, .int 0), (5, .int (rg ((lkD s9_1 (rch σ 81) d) (15 + 1)) 3 (nI d))), (0, .ref (G.1 93)), (1, .ref (G.1 4)), (2, .ref (G.1 81)), (3, .int (rch σ 81)), (4, .int (nI d))] d_Plans_lookWithoutDonkeys_75 (by decide) rfl ?_
              have hl77 : ∀ (N9 : Nat) (c : Nat), (c ≤ (ct (cM (lkD s9_1 (rch σ 81) d) 0))) → (ct (cM (lkD s9_1 (rch σ 81) d) 0)) - c = N9 → J l G X 10 (lkC (lkD s9_1 (rch σ 81) d) (dP (lkD s9_1 (rch σ 81) d) (nI d)) (rch σ 81) d c) 77 [(0, .ref (G.1 93)), (1, .ref (G.1 4)), (2, .ref (G.1 81)), (3, .int (rch σ 81)), (4, .int (nI d)), (5, .int (rg ((lkD s9_1 (rch σ 81) d) (15 + 1)) 3 (nI d))), (6, .int (nI c))] [] := by
                intro N9
                induction N9 using Nat.strongRecOn with
                | _ N9 ih77 =>
                  intro c hi_c hm77
                  refine j_iload hx d_Plans_lookWithoutDonkeys_77 6 rfl ?_
                  refine j_aload_n hx d_Plans_lookWithoutDonkeys_79 rfl 1 rfl ?_
                  refine j_get hx ck_Coast 0 (by decide) t_86 (by decide) (sh_4 _ _) rfl d_Plans_lookWithoutDonkeys_80 ?_
                  refine j_iconst (v := 0) hx d_Plans_lookWithoutDonkeys_83 (by decide) ?_
                  refine j_callVi hx (c_Row_getA hG ir_5 6 rfl (lkC (lkD s9_1 (rch σ 81) d) (dP (lkD s9_1 (rch σ 81) d) (nI d)) (rch σ 81) d c) 0) mo_Row_get mv_Row_get t_1098 (by decide) rfl (by decide) (sh_5 _ _) rfl rfl (Nat.le_of_ble_eq_true rfl) d_Plans_lookWithoutDonkeys_84 ?_
                  refine j_icmp_ge (tgt := 186) hx d_Plans_lookWithoutDonkeys_87 (by decide) (fun zc87 => ?_) (fun zc87 => ?_)
                  · skip
                    obtain rfl := ct_end' hi_c (by have q9 := zc87; rw [lkC_o (by decide)] at q9; exact q9)
                    refine j_iinc hx [(4, .int ((nI d) + 1)), (0, .ref (G.1 93)), (1, .ref (G.1 4)), (2, .ref (G.1 81)), (3, .int (rch σ 81)), (5, .int (rg ((lkD s9_1 (rch σ 81) d) (15 + 1)) 3 (nI d))), (6, .int (nI (ct (cM (lkD s9_1 (rch σ 81) d) 0))))] d_Plans_lookWithoutDonkeys_186 4 rfl rfl (by decide) rfl ?_
                    refine j_goto (tgt := 50) hx d_Plans_lookWithoutDonkeys_189 (by decide) ?_
                    refine J.lsub (ls' := [(0, .ref (G.1 93)), (1, .ref (G.1 4)), (2, .ref (G.1 81)), (3, .int (rch σ 81)), (4, .int ((nI d) + 1))]) [1, 2, 3, 4, 0] rfl ?_
                    refine J.to ?_ ?_ (ih50 _ ?_ (d + 1) hlt50 rfl)
                    · first | (rfl) | fail
                    · first | (first | rfl | (simp only [nI_s]; done) | (simp only [nI_s, it_s]; done) | (simp [nI_s, it_s, zc19, zc60, zc87]; done)) | fail
                    · first | (omega) | fail
                  · skip
                    have hlt77 := ct_go hi_c (by have q9 := zc87; rw [lkC_o (by decide)] at q9; exact q9)
                    refine j_iconst (v := 0) hx d_Plans_lookWithoutDonkeys_90 (by decide) ?_
                    refine j_istore hx [(7, .int 0), (0, .ref (G.1 93)), (1, .ref (G.1 4)), (2, .ref (G.1 81)), (3, .int (rch σ 81)), (4, .int (nI d)), (5, .int (rg ((lkD s9_1 (rch σ 81) d) (15 + 1)) 3 (nI d))), (6, .int (nI c))] d_Plans_lookWithoutDonkeys_91 (by decide) rfl ?_
                    refine j_iconst (v := 0) hx d_Plans_lookWithoutDonkeys_93 (by decide) ?_
                    refine j_istore hx [(8, .int 0), (7, .int 0), (0, .ref (G.1 93)), (1, .ref (G.1 4)), (2, .ref (G.1 81)), (3, .int (rch σ 81)), (4, .int (nI d)), (5, .int (rg ((lkD s9_1 (rch σ 81) d) (15 + 1)) 3 (nI d))), (6, .int (nI c))] d_Plans_lookWithoutDonkeys_94 (by decide) rfl ?_
                    have hl96 : ∀ (N9 : Nat) (m : Nat), (m ≤ (ct (cM (lkC (lkD s9_1 (rch σ 81) d) (dP (lkD s9_1 (rch σ 81) d) (nI d)) (rch σ 81) d c) 0))) → (ct (cM (lkC (lkD s9_1 (rch σ 81) d) (dP (lkD s9_1 (rch σ 81) d) (nI d)) (rch σ 81) d c) 0)) - m = N9 → J l G X 10 (lkC (lkD s9_1 (rch σ 81) d) (dP (lkD s9_1 (rch σ 81) d) (nI d)) (rch σ 81) d c) 96 [(0, .ref (G.1 93)), (1, .ref (G.1 4)), (2, .ref (G.1 81)), (3, .int (rch σ 81)), (4, .int (nI d)), (5, .int (rg ((lkD s9_1 (rch σ 81) d) (15 + 1)) 3 (nI d))), (6, .int (nI c)), (7, .int (lkM (lkC (lkD s9_1 (rch σ 81) d) (dP (lkD s9_1 (rch σ 81) d) (nI d)) (rch σ 81) d c) (dP (lkD s9_1 (rch σ 81) d) (nI d)) (rch σ 81) c m)), (8, .int (nI m))] [] := by
                      intro N9
                      induction N9 using Nat.strongRecOn with
                      | _ N9 ih96 =>
                        intro m hi_m hm96
                        refine j_iload hx d_Plans_lookWithoutDonkeys_96 8 rfl ?_
                        refine j_aload_n hx d_Plans_lookWithoutDonkeys_98 rfl 1 rfl ?_
                        refine j_get hx ck_Coast 0 (by decide) t_86 (by decide) (sh_4 _ _) rfl d_Plans_lookWithoutDonkeys_99 ?_
                        refine j_iconst (v := 0) hx d_Plans_lookWithoutDonkeys_102 (by decide) ?_
                        refine j_callVi hx (c_Row_getA hG ir_5 6 rfl (lkC (lkD s9_1 (rch σ 81) d) (dP (lkD s9_1 (rch σ 81) d) (nI d)) (rch σ 81) d c) 0) mo_Row_get mv_Row_get t_1098 (by decide) rfl (by decide) (sh_5 _ _) rfl rfl (Nat.le_of_ble_eq_true rfl) d_Plans_lookWithoutDonkeys_103 ?_
                        refine j_icmp_ge (tgt := 163) hx d_Plans_lookWithoutDonkeys_106 (by decide) (fun zc106 => ?_) (fun zc106 => ?_)
                        · skip
                          obtain rfl := ct_end' hi_m zc106
                          refine j_aload_n hx d_Plans_lookWithoutDonkeys_163 rfl 0 rfl ?_
                          refine j_get hx ck_Plans 1 (by decide) t_264 (by decide) (sh_93 _ _) rfl d_Plans_lookWithoutDonkeys_164 ?_
                          refine j_iload hx d_Plans_lookWithoutDonkeys_167 4 rfl ?_
                          refine j_bipush (v := 12) hx d_Plans_lookWithoutDonkeys_169 (by decide) ?_
                          refine j_imul hx d_Plans_lookWithoutDonkeys_171 ?_
                          refine j_iload hx d_Plans_lookWithoutDonkeys_172 6 rfl ?_
                          refine j_iadd hx d_Plans_lookWithoutDonkeys_174 ?_
                          refine j_iload hx d_Plans_lookWithoutDonkeys_175 7 rfl ?_
                          refine j_callVv hx (c_Row_set hG ir_96 (lkC (lkD s9_1 (rch σ 81) d) (dP (lkD s9_1 (rch σ 81) d) (nI d)) (rch σ 81) d c) (((nI d) * 12) + (nI c)) (lkM (lkC (lkD s9_1 (rch σ 81) d) (dP (lkD s9_1 (rch σ 81) d) (nI d)) (rch σ 81) d c) (dP (lkD s9_1 (rch σ 81) d) (nI d)) (rch σ 81) c (ct (cM (lkC (lkD s9_1 (rch σ 81) d) (dP (lkD s9_1 (rch σ 81) d) (nI d)) (rch σ 81) d c) 0)))) mo_Row_set mv_Row_set t_1106 (by decide) rfl (by decide) (sh_96 _ _) rfl rfl (Nat.le_of_ble_eq_true rfl) d_Plans_lookWithoutDonkeys_177 ?_
                          refine j_iinc hx [(6, .int ((nI c) + 1)), (0, .ref (G.1 93)), (1, .ref (G.1 4)), (2, .ref (G.1 81)), (3, .int (rch σ 81)), (4, .int (nI d)), (5, .int (rg ((lkD s9_1 (rch σ 81) d) (15 + 1)) 3 (nI d))), (7, .int (lkM (lkC (lkD s9_1 (rch σ 81) d) (dP (lkD s9_1 (rch σ 81) d) (nI d)) (rch σ 81) d c) (dP (lkD s9_1 (rch σ 81) d) (nI d)) (rch σ 81) c (ct (cM (lkC (lkD s9_1 (rch σ 81) d) (dP (lkD s9_1 (rch σ 81) d) (nI d)) (rch σ 81) d c) 0)))), (8, .int (nI (ct (cM (lkC (lkD s9_1 (rch σ 81) d) (dP (lkD s9_1 (rch σ 81) d) (nI d)) (rch σ 81) d c) 0))))] d_Plans_lookWithoutDonkeys_180 6 rfl rfl (by decide) rfl ?_
                          refine j_goto (tgt := 77) hx d_Plans_lookWithoutDonkeys_183 (by decide) ?_
                          refine J.lsub (ls' := [(0, .ref (G.1 93)), (1, .ref (G.1 4)), (2, .ref (G.1 81)), (3, .int (rch σ 81)), (4, .int (nI d)), (5, .int (rg ((lkD s9_1 (rch σ 81) d) (15 + 1)) 3 (nI d))), (6, .int ((nI c) + 1))]) [1, 2, 3, 4, 5, 6, 0] rfl ?_
                          refine J.to ?_ ?_ (ih77 _ ?_ (c + 1) hlt77 rfl)
                          · first | (rfl) | fail
                          · first | (first | rfl | (simp only [nI_s]; done) | (simp only [nI_s, it_s]; done) | (simp [nI_s, it_s, zc19, zc60, zc87, zc106]; done)) | fail
                          · first | (omega) | fail
                        · skip
                          have hlt96 := ct_go hi_m zc106
                          refine j_iload hx d_Plans_lookWithoutDonkeys_109 6 rfl ?_
                          refine j_iload hx d_Plans_lookWithoutDonkeys_111 8 rfl ?_
                          refine j_iadd hx d_Plans_lookWithoutDonkeys_113 ?_
                          refine j_aload_n hx d_Plans_lookWithoutDonkeys_114 rfl 1 rfl ?_
                          refine j_get hx ck_Coast 0 (by decide) t_86 (by decide) (sh_4 _ _) rfl d_Plans_lookWithoutDonkeys_115 ?_
                          refine j_iconst (v := 0) hx d_Plans_lookWithoutDonkeys_118 (by decide) ?_
                          refine j_callVi hx (c_Row_getA hG ir_5 6 rfl (lkC (lkD s9_1 (rch σ 81) d) (dP (lkD s9_1 (rch σ 81) d) (nI d)) (rch σ 81) d c) 0) mo_Row_get mv_Row_get t_1098 (by decide) rfl (by decide) (sh_5 _ _) rfl rfl (Nat.le_of_ble_eq_true rfl) d_Plans_lookWithoutDonkeys_119 ?_
                          refine j_iconst (v := 1) hx d_Plans_lookWithoutDonkeys_122 (by decide) ?_
                          refine j_isub hx d_Plans_lookWithoutDonkeys_123 ?_
                          refine j_mmin hx t_1107 (by decide) (Nat.le_of_ble_eq_true rfl) d_Plans_lookWithoutDonkeys_124 ?_
                          refine j_istore hx [(9, .int (if ((rg ((lkC (lkD s9_1 (rch σ 81) d) (dP (lkD s9_1 (rch σ 81) d) (nI d)) (rch σ 81) d c) (5 + 1)) 6 0) - 1) < ((nI c) + (nI m)) then ((rg ((lkC (lkD s9_1 (rch σ 81) d) (dP (lkD s9_1 (rch σ 81) d) (nI d)) (rch σ 81) d c) (5 + 1)) 6 0) - 1) else ((nI c) + (nI m)))), (0, .ref (G.1 93)), (1, .ref (G.1 4)), (2, .ref (G.1 81)), (3, .int (rch σ 81)), (4, .int (nI d)), (5, .int (rg ((lkD s9_1 (rch σ 81) d) (15 + 1)) 3 (nI d))), (6, .int (nI c)), (7, .int (lkM (lkC (lkD s9_1 (rch σ 81) d) (dP (lkD s9_1 (rch σ 81) d) (nI d)) (rch σ 81) d c) (dP (lkD s9_1 (rch σ 81) d) (nI d)) (rch σ 81) c m)), (8, .int (nI m))] d_Plans_lookWithoutDonkeys_127 (by decide) rfl ?_
                          refine j_iload hx d_Plans_lookWithoutDonkeys_129 8 rfl ?_
                          refine j_iload hx d_Plans_lookWithoutDonkeys_131 0 rfl ?_
                          refine j_iload hx d_Plans_lookWithoutDonkeys_133 6 rfl ?_
                          refine j_iload hx d_Plans_lookWithoutDonkeys_135 9 rfl ?_
                          refine j_iload hx d_Plans_lookWithoutDonkeys_137 9 rfl ?_
                          refine j_iload_n hx d_Plans_lookWithoutDonkeys_139 rfl 4 rfl ?_
                          refine j_callNi hx (c_DL_isSeen hG (lkC (lkD s9_1 (rch σ 81) d) (dP (lkD s9_1 (rch σ 81) d) (nI d)) (rch σ 81) d c) (if ((rg ((lkC (lkD s9_1 (rch σ 81) d) (dP (lkD s9_1 (rch σ 81) d) (nI d)) (rch σ 81) d c) (5 + 1)) 6 0) - 1) < ((nI c) + (nI m)) then ((rg ((lkC (lkD s9_1 (rch σ 81) d) (dP (lkD s9_1 (rch σ 81) d) (nI d)) (rch σ 81) d c) (5 + 1)) 6 0) - 1) else ((nI c) + (nI m))) (rg ((lkD s9_1 (rch σ 81) d) (15 + 1)) 3 (nI d)) (nI m) (nI m) (rch σ 81)) mo_DL_isSeen t_458 t_1108 (by decide) rfl rfl (Nat.le_of_ble_eq_true rfl) d_Plans_lookWithoutDonkeys_140 ?_
                          refine j_if_eq (tgt := 153) hx d_Plans_lookWithoutDonkeys_143 (by decide) (fun zc143 => ?_) (fun zc143 => ?_)
                          · skip
                            refine j_iconst (v := 0) hx d_Plans_lookWithoutDonkeys_153 (by decide) ?_
                            refine j_ior hx d_Plans_lookWithoutDonkeys_154 ?_
                            refine j_istore hx [(7, .int ((lkM (lkC (lkD s9_1 (rch σ 81) d) (dP (lkD s9_1 (rch σ 81) d) (nI d)) (rch σ 81) d c) (dP (lkD s9_1 (rch σ 81) d) (nI d)) (rch σ 81) c m) ||| 0)), (9, .int (if ((rg ((lkC (lkD s9_1 (rch σ 81) d) (dP (lkD s9_1 (rch σ 81) d) (nI d)) (rch σ 81) d c) (5 + 1)) 6 0) - 1) < ((nI c) + (nI m)) then ((rg ((lkC (lkD s9_1 (rch σ 81) d) (dP (lkD s9_1 (rch σ 81) d) (nI d)) (rch σ 81) d c) (5 + 1)) 6 0) - 1) else ((nI c) + (nI m)))), (0, .ref (G.1 93)), (1, .ref (G.1 4)), (2, .ref (G.1 81)), (3, .int (rch σ 81)), (4, .int (nI d)), (5, .int (rg ((lkD s9_1 (rch σ 81) d) (15 + 1)) 3 (nI d))), (6, .int (nI c)), (8, .int (nI m))] d_Plans_lookWithoutDonkeys_155 (by decide) rfl ?_
                            refine j_iinc hx [(8, .int ((nI m) + 1)), (7, .int ((lkM (lkC (lkD s9_1 (rch σ 81) d) (dP (lkD s9_1 (rch σ 81) d) (nI d)) (rch σ 81) d c) (dP (lkD s9_1 (rch σ 81) d) (nI d)) (rch σ 81) c m) ||| 0)), (9, .int (if ((rg ((lkC (lkD s9_1 (rch σ 81) d) (dP (lkD s9_1 (rch σ 81) d) (nI d)) (rch σ 81) d c) (5 + 1)) 6 0) - 1) < ((nI c) + (nI m)) then ((rg ((lkC (lkD s9_1 (rch σ 81) d) (dP (lkD s9_1 (rch σ 81) d) (nI d)) (rch σ 81) d c) (5 + 1)) 6 0) - 1) else ((nI c) + (nI m)))), (0, .ref (G.1 93)), (1, .ref (G.1 4)), (2, .ref (G.1 81)), (3, .int (rch σ 81)), (4, .int (nI d)), (5, .int (rg ((lkD s9_1 (rch σ 81) d) (15 + 1)) 3 (nI d))), (6, .int (nI c))] d_Plans_lookWithoutDonkeys_157 9 rfl rfl (by decide) rfl ?_
                            refine j_goto (tgt := 96) hx d_Plans_lookWithoutDonkeys_160 (by decide) ?_
                            refine J.lsub (ls' := [(0, .ref (G.1 93)), (1, .ref (G.1 4)), (2, .ref (G.1 81)), (3, .int (rch σ 81)), (4, .int (nI d)), (5, .int (rg ((lkD s9_1 (rch σ 81) d) (15 + 1)) 3 (nI d))), (6, .int (nI c)), (7, .int ((lkM (lkC (lkD s9_1 (rch σ 81) d) (dP (lkD s9_1 (rch σ 81) d) (nI d)) (rch σ 81) d c) (dP (lkD s9_1 (rch σ 81) d) (nI d)) (rch σ 81) c m) ||| 0)), (8, .int ((nI m) + 1))]) [3, 4, 5, 6, 7, 8, 9, 1, 0] rfl ?_
                            refine J.to ?_ ?_ (ih96 _ ?_ (m + 1) hlt96 rfl)
                            · first | (first | rfl | (simp [zc19, zc60, zc87, zc106, zc143]; done)) | fail
                            · first | (simp only [nI_s, lkM_s]; first | (rw [if_pos (show iSn (lka (lkC (lkD s9_1 (rch σ 81) d) (dP (lkD s9_1 (rch σ 81) d) (nI d)) (rch σ 81) d c) c m) (dP (lkD s9_1 (rch σ 81) d) (nI d)) (nI m) (nI m) (rch σ 81) from b2_nz zc143)]; done) | (rw [if_neg (show ¬ iSn (lka (lkC (lkD s9_1 (rch σ 81) d) (dP (lkD s9_1 (rch σ 81) d) (nI d)) (rch σ 81) d c) c m) (dP (lkD s9_1 (rch σ 81) d) (nI d)) (nI m) (nI m) (rch σ 81) from b2_z zc143)]; done)) | fail
                            · first | (omega) | fail
                          · skip
                            refine j_iconst (v := 1) hx d_Plans_lookWithoutDonkeys_146 (by decide) ?_
                            refine j_iload hx d_Plans_lookWithoutDonkeys_147 9 rfl ?_
                            refine j_ishl hx d_Plans_lookWithoutDonkeys_149 ?_
                            refine j_goto (tgt := 154) hx d_Plans_lookWithoutDonkeys_150 (by decide) ?_
                            refine j_ior hx d_Plans_lookWithoutDonkeys_154 ?_
                            refine j_istore hx [(7, .int ((lkM (lkC (lkD s9_1 (rch σ 81) d) (dP (lkD s9_1 (rch σ 81) d) (nI d)) (rch σ 81) d c) (dP (lkD s9_1 (rch σ 81) d) (nI d)) (rch σ 81) c m) ||| (1 <<< ((nI m) &&& 31)))), (9, .int (if ((rg ((lkC (lkD s9_1 (rch σ 81) d) (dP (lkD s9_1 (rch σ 81) d) (nI d)) (rch σ 81) d c) (5 + 1)) 6 0) - 1) < ((nI c) + (nI m)) then ((rg ((lkC (lkD s9_1 (rch σ 81) d) (dP (lkD s9_1 (rch σ 81) d) (nI d)) (rch σ 81) d c) (5 + 1)) 6 0) - 1) else ((nI c) + (nI m)))), (0, .ref (G.1 93)), (1, .ref (G.1 4)), (2, .ref (G.1 81)), (3, .int (rch σ 81)), (4, .int (nI d)), (5, .int (rg ((lkD s9_1 (rch σ 81) d) (15 + 1)) 3 (nI d))), (6, .int (nI c)), (8, .int (nI m))] d_Plans_lookWithoutDonkeys_155 (by decide) rfl ?_
                            refine j_iinc hx [(8, .int ((nI m) + 1)), (7, .int ((lkM (lkC (lkD s9_1 (rch σ 81) d) (dP (lkD s9_1 (rch σ 81) d) (nI d)) (rch σ 81) d c) (dP (lkD s9_1 (rch σ 81) d) (nI d)) (rch σ 81) c m) ||| (1 <<< ((nI m) &&& 31)))), (9, .int (if ((rg ((lkC (lkD s9_1 (rch σ 81) d) (dP (lkD s9_1 (rch σ 81) d) (nI d)) (rch σ 81) d c) (5 + 1)) 6 0) - 1) < ((nI c) + (nI m)) then ((rg ((lkC (lkD s9_1 (rch σ 81) d) (dP (lkD s9_1 (rch σ 81) d) (nI d)) (rch σ 81) d c) (5 + 1)) 6 0) - 1) else ((nI c) + (nI m)))), (0, .ref (G.1 93)), (1, .ref (G.1 4)), (2, .ref (G.1 81)), (3, .int (rch σ 81)), (4, .int (nI d)), (5, .int (rg ((lkD s9_1 (rch σ 81) d) (15 + 1)) 3 (nI d))), (6, .int (nI c))] d_Plans_lookWithoutDonkeys_157 9 rfl rfl (by decide) rfl ?_
                            refine j_goto (tgt := 96) hx d_Plans_lookWithoutDonkeys_160 (by decide) ?_
                            refine J.lsub (ls' := [(0, .ref (G.1 93)), (1, .ref (G.1 4)), (2, .ref (G.1 81)), (3, .int (rch σ 81)), (4, .int (nI d)), (5, .int (rg ((lkD s9_1 (rch σ 81) d) (15 + 1)) 3 (nI d))), (6, .int (nI c)), (7, .int ((lkM (lkC (lkD s9_1 (rch σ 81) d) (dP (lkD s9_1 (rch σ 81) d) (nI d)) (rch σ 81) d c) (dP (lkD s9_1 (rch σ 81) d) (nI d)) (rch σ 81) c m) ||| (1 <<< ((nI m) &&& 31)))), (8, .int ((nI m) + 1))]) [3, 4, 5, 6, 7, 8, 9, 1, 0] rfl ?_
                            refine J.to ?_ ?_ (ih96 _ ?_ (m + 1) hlt96 rfl)
                            · first | (first | rfl | (simp [zc19, zc60, zc87, zc106, zc143]; done)) | fail
                            · first | (simp only [nI_s, lkM_s]; first | (rw [if_pos (show iSn (lka (lkC (lkD s9_1 (rch σ 81) d) (dP (lkD s9_1 (rch σ 81) d) (nI d)) (rch σ 81) d c) c m) (dP (lkD s9_1 (rch σ 81) d) (nI d)) (nI m) (nI m) (rch σ 81) from b2_nz zc143)]; done) | (rw [if_neg (show ¬ iSn (lka (lkC (lkD s9_1 (rch σ 81) d) (dP (lkD s9_1 (rch σ 81) d) (nI d)) (rch σ 81) d c) c m) (dP (lkD s9_1 (rch σ 81) d) (nI d)) (nI m) (nI m) (rch σ 81) from b2_z zc143)]; done)) | fail
                            · first | (omega) | fail
                    refine J.lsub (ls' := [(0, .ref (G.1 93)), (1, .ref (G.1 4)), (2, .ref (G.1 81)), (3, .int (rch σ 81)), (4, .int (nI d)), (5, .int (rg ((lkD s9_1 (rch σ 81) d) (15 + 1)) 3 (nI d))), (6, .int (nI c)), (7, .int 0), (8, .int 0)]) [2, 3, 4, 5, 6, 7, 8, 1, 0] rfl ?_
                    refine J.to ?_ ?_ (hl96 _ 0 (Nat.zero_le _) rfl)
                    · first | (first | rfl | (simp [zc19, zc60, zc87]; done)) | fail
                    · first | (rfl) | fail
              refine J.lsub (ls' := [(0, .ref (G.1 93)), (1, .ref (G.1 4)), (2, .ref (G.1 81)), (3, .int (rch σ 81)), (4, .int (nI d)), (5, .int (rg ((lkD s9_1 (rch σ 81) d) (15 + 1)) 3 (nI d))), (6, .int 0)]) [2, 3, 4, 5, 6, 1, 0] rfl ?_
              refine J.to ?_ ?_ (hl77 _ 0 (Nat.zero_le _) rfl)
              · first | (rfl) | fail
              · first | (first | rfl | (simp only [nI_s]; done) | (simp only [nI_s, it_s]; done) | (simp [nI_s, it_s, zc19, zc60]; done)) | fail
        refine J.lsub (ls' := [(0, .ref (G.1 93)), (1, .ref (G.1 4)), (2, .ref (G.1 81)), (3, .int (rch σ 81)), (4, .int 0)]) [1, 2, 3, 4, 0] rfl ?_
        refine J.to ?_ ?_ (hl50 _ 0 (Nat.zero_le _) rfl)
        · first | (rfl) | fail
        · first | (first | rfl | (simp only [nI_s]; done) | (simp only [nI_s, it_s]; done) | (simp [nI_s, it_s, zc19]; done)) | fail
      · skip
        have hlt9 := ct_go hi_i (by have q9 := zc19; rw [lk1_o (by decide)] at q9; exact q9)
        refine j_aload_n hx d_Plans_lookWithoutDonkeys_22 rfl 0 rfl ?_
        refine j_get hx ck_Plans 0 (by decide) t_263 (by decide) (sh_93 _ _) rfl d_Plans_lookWithoutDonkeys_23 ?_
        refine j_iload hx d_Plans_lookWithoutDonkeys_26 4 rfl ?_
        refine j_aload_n hx d_Plans_lookWithoutDonkeys_28 rfl 2 rfl ?_
        refine j_aload_n hx d_Plans_lookWithoutDonkeys_29 rfl 1 rfl ?_
        refine j_iload hx d_Plans_lookWithoutDonkeys_30 4 rfl ?_
        refine j_iload hx d_Plans_lookWithoutDonkeys_32 4 rfl ?_
        refine j_iload_n hx d_Plans_lookWithoutDonkeys_34 rfl 3 rfl ?_
        refine j_callVi hx (c_Nights_lightFlashes hG isNights_81 (lk1 σ (rch σ 81) i) (nI i) (nI i) (rch σ 81)) mo_Nights_lightFlashes mv_Nights_lightFlashes t_1105 (by decide) rfl (by decide) (sh_81 _ _) rfl rfl (Nat.le_of_ble_eq_true rfl) d_Plans_lookWithoutDonkeys_35 ?_
        refine j_callVv hx (c_Row_set hG ir_94 (lk1 σ (rch σ 81) i) (nI i) (lfl (lk1 σ (rch σ 81) i) 81 (nI i) (nI i) (rch σ 81))) mo_Row_set mv_Row_set t_1106 (by decide) rfl (by decide) (sh_94 _ _) rfl rfl (Nat.le_of_ble_eq_true rfl) d_Plans_lookWithoutDonkeys_38 ?_
        refine j_iinc hx [(4, .int ((nI i) + 1)), (0, .ref (G.1 93)), (1, .ref (G.1 4)), (2, .ref (G.1 81)), (3, .int (rch σ 81))] d_Plans_lookWithoutDonkeys_41 4 rfl rfl (by decide) rfl ?_
        refine j_goto (tgt := 9) hx d_Plans_lookWithoutDonkeys_44 (by decide) ?_
        refine J.lsub (ls' := [(0, .ref (G.1 93)), (1, .ref (G.1 4)), (2, .ref (G.1 81)), (3, .int (rch σ 81)), (4, .int ((nI i) + 1))]) [1, 2, 3, 4, 0] rfl ?_
        refine J.to ?_ ?_ (ih9 _ ?_ (i + 1) hlt9 rfl)
        · first | (rfl) | fail
        · first | (first | rfl | (simp only [nI_s]; done) | (simp only [nI_s, it_s]; done) | (simp [nI_s, it_s, zc19]; done)) | fail
        · first | (omega) | fail
  refine J.lsub (ls' := [(0, .ref (G.1 93)), (1, .ref (G.1 4)), (2, .ref (G.1 81)), (3, .int (rch σ 81)), (4, .int 0)]) [2, 3, 4, 1, 0] rfl ?_
  refine J.to ?_ ?_ (hl9 _ 0 (Nat.zero_le _) rfl)
  · first | (rfl) | fail
  · first | (first | rfl | (simp only [nI_s]; done) | (simp only [nI_s, it_s]; done) | (simp [nI_s, it_s, ]; done)) | fail

set_option maxRecDepth 20000 in
set_option maxHeartbeats 4000000 in
theorem c_Plans_cellsOf {l : Launch} {G : Gz} (hG : zI G) (σ : St) (way : Int32) (hD : cM σ 2 = nI (ct (cM σ 2))) (hD3 : ct (cM σ 2) ≤ 3) : MI l G y_Plans_cellsOf prog_8_method_8_code 5 .int 2 [.ref (G.1 4), .int way] σ (coC σ way) σ := by
  refine MI.of hG (by decide) (Nat.le_of_ble_eq_true rfl) (fun X hx hq => ?_)
  show J l G X 5 σ 0 [(0, .ref (G.1 4)), (1, .int way)] []
  refine j_iconst (v := 0) hx d_Plans_cellsOf_0 (by decide) ?_
  refine j_istore_n hx [(2, .int 0), (0, .ref (G.1 4)), (1, .int way)] d_Plans_cellsOf_1 rfl (by decide) rfl ?_
  refine j_iload_n hx d_Plans_cellsOf_2 rfl 2 rfl ?_
  refine j_istore_n hx [(3, .int way), (2, .int 0), (0, .ref (G.1 4)), (1, .int way)] d_Plans_cellsOf_3 rfl (by decide) rfl ?_
  refine j_aload_n hx d_Plans_cellsOf_4 rfl 2 rfl ?_
  refine j_get hx ck_Coast 0 (by decide) t_86 (by decide) (sh_4 _ _) rfl d_Plans_cellsOf_5 ?_
  refine j_iconst (v := 2) hx d_Plans_cellsOf_8 (by decide) ?_
  refine j_callVi hx (c_Row_getA hG ir_5 6 rfl σ 2) mo_Row_get mv_Row_get t_1098 (by decide) rfl (by decide) (sh_5 _ _) rfl rfl (Nat.le_of_ble_eq_true rfl) d_Plans_cellsOf_9 ?_
  refine j_iconst (v := 1) hx d_Plans_cellsOf_12 (by decide) ?_
  refine j_isub hx d_Plans_cellsOf_13 ?_
  refine j_istore hx [(4, .int ((rg (σ (5 + 1)) 6 2) - 1)), (3, .int way), (2, .int 0), (0, .ref (G.1 4)), (1, .int way)] d_Plans_cellsOf_14 (by decide) rfl ?_
  have hl16 : ∀ (N9 : Nat) (j : Nat), (j ≤ ct (cM σ 2)) → ct (cM σ 2) - j = N9 → J l G X 5 σ 16 [(0, .ref (G.1 4)), (1, .int way), (2, .int ((coR σ way j).1)), (3, .int ((coR σ way j).2)), (4, .int (nI (ct (cM σ 2) - j) - 1))] [] := by
    intro N9
    induction N9 using Nat.strongRecOn with
    | _ N9 ih16 =>
      intro j hj hm16
      refine j_iload hx d_Plans_cellsOf_16 4 rfl ?_
      refine j_if_lt (tgt := 60) hx d_Plans_cellsOf_18 (by decide) (fun zc18 => ?_) (fun zc18 => ?_)
      · skip
        obtain he := co_end hj hD3 zc18
        refine j_iload_n hx d_Plans_cellsOf_60 rfl 2 rfl ?_
        exact j_iret hx hq rfl d_Plans_cellsOf_61 (by first | (unfold coC; rw [he]) | fail) (by first | (first | rfl | (simp only [zc18]; done) | (simp [zc18]; done)) | fail)
      · skip
        have hlt := co_go hD3 zc18
        refine j_iload_n hx d_Plans_cellsOf_21 rfl 2 rfl ?_
        refine j_iload_n hx d_Plans_cellsOf_22 rfl 3 rfl ?_
        refine j_aload_n hx d_Plans_cellsOf_23 rfl 0 rfl ?_
        refine j_get hx ck_Coast 0 (by decide) t_86 (by decide) (sh_4 _ _) rfl d_Plans_cellsOf_24 ?_
        refine j_iconst (v := 0) hx d_Plans_cellsOf_27 (by decide) ?_
        refine j_callVi hx (c_Row_getA hG ir_5 6 rfl σ 0) mo_Row_get mv_Row_get t_1098 (by decide) rfl (by decide) (sh_5 _ _) rfl rfl (Nat.le_of_ble_eq_true rfl) d_Plans_cellsOf_28 ?_
        refine j_callNi hx (c_DL_left hG σ ((coR σ way j).2) (rg (σ (5 + 1)) 6 0)) mo_DL_left t_1113 t_1112 (by decide) rfl rfl (Nat.le_of_ble_eq_true rfl) d_Plans_cellsOf_31 ?_
        refine j_iconst (v := 4) hx d_Plans_cellsOf_34 (by decide) ?_
        refine j_iload hx d_Plans_cellsOf_35 4 rfl ?_
        refine j_imul hx d_Plans_cellsOf_37 ?_
        refine j_ishl hx d_Plans_cellsOf_38 ?_
        refine j_ior hx d_Plans_cellsOf_39 ?_
        refine j_istore_n hx [(2, .int (((coR σ way j).1) ||| ((lft ((coR σ way j).2) (rg (σ (5 + 1)) 6 0)) <<< ((4 * (nI (ct (cM σ 2) - j) - 1)) &&& 31)))), (0, .ref (G.1 4)), (1, .int way), (3, .int ((coR σ way j).2)), (4, .int (nI (ct (cM σ 2) - j) - 1))] d_Plans_cellsOf_40 rfl (by decide) rfl ?_
        refine j_iload_n hx d_Plans_cellsOf_41 rfl 3 rfl ?_
        refine j_aload_n hx d_Plans_cellsOf_42 rfl 1 rfl ?_
        refine j_get hx ck_Coast 0 (by decide) t_86 (by decide) (sh_4 _ _) rfl d_Plans_cellsOf_43 ?_
        refine j_iconst (v := 0) hx d_Plans_cellsOf_46 (by decide) ?_
        refine j_callVi hx (c_Row_getA hG ir_5 6 rfl σ 0) mo_Row_get mv_Row_get t_1098 (by decide) rfl (by decide) (sh_5 _ _) rfl rfl (Nat.le_of_ble_eq_true rfl) d_Plans_cellsOf_47 ?_
        refine j_callNi hx (c_DL_cut hG σ ((coR σ way j).2) (rg (σ (5 + 1)) 6 0)) mo_DL_cut t_1116 t_1115 (by decide) rfl rfl (Nat.le_of_ble_eq_true rfl) d_Plans_cellsOf_50 ?_
        refine j_istore_n hx [(3, .int (cutz ((coR σ way j).2) (rg (σ (5 + 1)) 6 0))), (2, .int (((coR σ way j).1) ||| ((lft ((coR σ way j).2) (rg (σ (5 + 1)) 6 0)) <<< ((4 * (nI (ct (cM σ 2) - j) - 1)) &&& 31)))), (0, .ref (G.1 4)), (1, .int way), (4, .int (nI (ct (cM σ 2) - j) - 1))] d_Plans_cellsOf_53 rfl (by decide) rfl ?_
        refine j_iinc hx [(4, .int ((nI (ct (cM σ 2) - j) - 1) + (-1))), (3, .int (cutz ((coR σ way j).2) (rg (σ (5 + 1)) 6 0))), (2, .int (((coR σ way j).1) ||| ((lft ((coR σ way j).2) (rg (σ (5 + 1)) 6 0)) <<< ((4 * (nI (ct (cM σ 2) - j) - 1)) &&& 31)))), (0, .ref (G.1 4)), (1, .int way)] d_Plans_cellsOf_54 4 rfl rfl (by decide) rfl ?_
        refine j_goto (tgt := 16) hx d_Plans_cellsOf_57 (by decide) ?_
        refine J.lsub (ls' := [(0, .ref (G.1 4)), (1, .int way), (2, .int (((coR σ way j).1) ||| ((lft ((coR σ way j).2) (rg (σ (5 + 1)) 6 0)) <<< ((4 * (nI (ct (cM σ 2) - j) - 1)) &&& 31)))), (3, .int (cutz ((coR σ way j).2) (rg (σ (5 + 1)) 6 0))), (4, .int ((nI (ct (cM σ 2) - j) - 1) + (-1)))]) [3, 4, 2, 1, 0] rfl ?_
        refine J.to ?_ ?_ (ih16 _ ?_ (j + 1) hlt rfl)
        · first | (first | rfl | (simp [zc18]; done)) | fail
        · first | (rw [co_s hlt hD3]; rfl) | fail
        · first | (omega) | fail
  refine J.lsub (ls' := [(0, .ref (G.1 4)), (1, .int way), (2, .int 0), (3, .int way), (4, .int ((rg (σ (5 + 1)) 6 2) - 1))]) [3, 4, 2, 1, 0] rfl ?_
  refine J.to ?_ ?_ (hl16 _ 0 (Nat.zero_le _) rfl)
  · first | (first | rfl | (simp []; done)) | fail
  · first | (rw [Nat.sub_zero, ← hD]; rfl) | fail

set_option maxRecDepth 20000 in
set_option maxHeartbeats 4000000 in
theorem c_DL_power {l : Launch} {G : Gz} (hG : zI G) (σ : St) (b9 : Int32) (n : Int32) : ML l G y_DL_power prog_1_method_47_code 5 .long 1 [.int b9, .int n] σ (pwr b9 (ct n)) σ := by
  refine ML.of hG (by decide) (Nat.le_of_ble_eq_true rfl) (fun X hx hq => ?_)
  show J l G X 5 σ 0 [(0, .int b9), (1, .int n)] []
  refine j_lconst (v := 1) hx d_DL_power_0 (by decide) ?_
  refine j_lstore_n hx [(2, .long ((1 : Int64))), (0, .int b9), (1, .int n)] d_DL_power_1 rfl (by decide) rfl ?_
  refine j_iconst (v := 0) hx d_DL_power_2 (by decide) ?_
  refine j_istore hx [(4, .int 0), (2, .long ((1 : Int64))), (0, .int b9), (1, .int n)] d_DL_power_3 (by decide) rfl ?_
  have hl5 : ∀ (N9 : Nat) (i : Nat), (i ≤ (ct n)) → (ct n) - i = N9 → J l G X 5 σ 5 [(0, .int b9), (1, .int n), (2, .long (pwr b9 i)), (4, .int (nI i))] [] := by
    intro N9
    induction N9 using Nat.strongRecOn with
    | _ N9 ih5 =>
      intro i hi_i hm5
      refine j_iload hx d_DL_power_5 3 rfl ?_
      refine j_iload_n hx d_DL_power_7 rfl 1 rfl ?_
      refine j_icmp_ge (tgt := 22) hx d_DL_power_8 (by decide) (fun zc8 => ?_) (fun zc8 => ?_)
      · skip
        obtain rfl := ct_end' hi_i zc8
        refine j_lload_n hx d_DL_power_22 rfl 2 rfl ?_
        exact j_lret hx hq d_DL_power_23 (by first | (rfl) | fail) (by first | (rfl) | fail)
      · skip
        have hlt5 := ct_go hi_i zc8
        refine j_lload_n hx d_DL_power_11 rfl 2 rfl ?_
        refine j_iload_n hx d_DL_power_12 rfl 0 rfl ?_
        refine j_i2l hx d_DL_power_13 rfl ?_
        refine j_lmul hx d_DL_power_14 ?_
        refine j_lstore_n hx [(2, .long ((pwr b9 i) * b9.toInt64)), (0, .int b9), (1, .int n), (4, .int (nI i))] d_DL_power_15 rfl (by decide) rfl ?_
        refine j_iinc hx [(4, .int ((nI i) + 1)), (2, .long ((pwr b9 i) * b9.toInt64)), (0, .int b9), (1, .int n)] d_DL_power_16 3 rfl rfl (by decide) rfl ?_
        refine j_goto (tgt := 5) hx d_DL_power_19 (by decide) ?_
        refine J.lsub (ls' := [(0, .int b9), (1, .int n), (2, .long ((pwr b9 i) * b9.toInt64)), (4, .int ((nI i) + 1))]) [2, 3, 1, 0] rfl ?_
        refine J.to ?_ ?_ (ih5 _ ?_ (i + 1) hlt5 rfl)
        · first | (first | rfl | (simp [zc8]; done)) | fail
        · first | (simp only [nI_s]; rfl) | fail
        · first | (omega) | fail
  refine J.lsub (ls' := [(0, .int b9), (1, .int n), (2, .long ((1 : Int64))), (4, .int 0)]) [2, 3, 1, 0] rfl ?_
  refine J.to ?_ ?_ (hl5 _ 0 (Nat.zero_le _) rfl)
  · first | (first | rfl | (simp []; done)) | fail
  · first | (rfl) | fail

set_option maxRecDepth 20000 in
set_option maxHeartbeats 4000000 in
theorem c_DL_shortest {l : Launch} {G : Gz} (hG : zI G) (σ : St) : MI l G y_DL_shortest prog_1_method_23_code 2 .int 4 [.ref (G.1 0)] σ (((stF σ 8).1).getD (-1)) ((stF σ 8).2) := by
  refine MI.of hG (by decide) (Nat.le_of_ble_eq_true rfl) (fun X hx hq => ?_)
  show J l G X 2 σ 0 [(0, .ref (G.1 0))] []
  refine j_iconst (v := 1) hx d_DL_shortest_0 (by decide) ?_
  refine j_istore_n hx [(1, .int 1), (0, .ref (G.1 0))] d_DL_shortest_1 rfl (by decide) rfl ?_
  have hl2 : ∀ (N9 : Nat) (i : Nat) (s : St), (i ≤ 8) → (stF σ i = (none, s)) → 8 - i = N9 → J l G X 2 s 2 [(0, .ref (G.1 0)), (1, .int (nI (i + 1)))] [] := by
    intro N9
    induction N9 using Nat.strongRecOn with
    | _ N9 ih2 =>
      intro i s hi_i hr hm2
      refine j_iload_n hx d_DL_shortest_2 rfl 1 rfl ?_
      refine j_bipush (v := 8) hx d_DL_shortest_3 (by decide) ?_
      refine j_icmp_gt (tgt := 37) hx d_DL_shortest_5 (by decide) (fun zc5 => ?_) (fun zc5 => ?_)
      · skip
        obtain rfl := gt_end (n := 8) hi_i (by decide) zc5
        refine j_iconst (v := (-1)) hx d_DL_shortest_37 (by decide) ?_
        exact j_iret hx hq rfl d_DL_shortest_38 (by first | (first | (rw [hr]; rfl) | (rw [stF_m (stF_2 hr zc26) hlt2]; rfl)) | fail) (by first | (first | (rw [hr]; done) | (rw [stF_m (stF_2 hr zc26) hlt2]; done)) | fail)
      · skip
        have hlt2 := gt_go (n := 8) hi_i (by decide) zc5
        refine j_aload_n hx d_DL_shortest_8 rfl 0 rfl ?_
        refine j_get hx ck_DL 1 (by decide) t_327 (by decide) (sh_0 _ _) rfl d_DL_shortest_9 ?_
        refine j_iload_n hx d_DL_shortest_12 rfl 1 rfl ?_
        refine j_aload_n hx d_DL_shortest_13 rfl 0 rfl ?_
        refine j_get hx ck_DL 13 (by decide) t_339 (by decide) (sh_0 _ _) rfl d_DL_shortest_14 ?_
        refine j_callVv hx (c_Coast_markMadeRows hG s (nI (i + 1))) mo_Coast_markMadeRows mv_Coast_markMadeRows t_503 (by decide) rfl (by decide) (sh_4 _ _) rfl rfl (Nat.le_of_ble_eq_true rfl) d_DL_shortest_17 ?_
        refine j_aload_n hx d_DL_shortest_20 rfl 0 rfl ?_
        refine j_iload_n hx d_DL_shortest_21 rfl 1 rfl ?_
        refine j_callVi hx (c_DL_firstUnmade hG (mmS s (nI (i + 1))) (nI (i + 1))) mo_DL_firstUnmade mv_DL_firstUnmade t_515 (by decide) rfl (by decide) (sh_0 _ _) rfl rfl (Nat.le_of_ble_eq_true rfl) d_DL_shortest_22 ?_
        refine j_iconst (v := (-1)) hx d_DL_shortest_25 (by decide) ?_
        refine j_icmp_eq (tgt := 31) hx d_DL_shortest_26 (by decide) (fun zc26 => ?_) (fun zc26 => ?_)
        · skip
          refine j_iinc hx [(1, .int ((nI (i + 1)) + 1)), (0, .ref (G.1 0))] d_DL_shortest_31 1 rfl rfl (by decide) rfl ?_
          refine j_goto (tgt := 2) hx d_DL_shortest_34 (by decide) ?_
          refine J.lsub (ls' := [(0, .ref (G.1 0)), (1, .int ((nI (i + 1)) + 1))]) [1, 0] rfl ?_
          refine J.to ?_ ?_ (ih2 _ ?_ (i + 1) (mmS s (nI (i + 1))) hlt2 (stF_1 hr zc26) rfl)
          · first | (rfl) | fail
          · first | (simp only [nI_s]) | fail
          · first | (omega) | fail
        · skip
          refine j_iload_n hx d_DL_shortest_29 rfl 1 rfl ?_
          exact j_iret hx hq rfl d_DL_shortest_30 (by first | (first | (rw [hr]; rfl) | (rw [stF_m (stF_2 hr zc26) hlt2]; rfl)) | fail) (by first | (first | (rw [hr]; done) | (rw [stF_m (stF_2 hr zc26) hlt2]; done)) | fail)
  refine J.lsub (ls' := [(0, .ref (G.1 0)), (1, .int 1)]) [1, 0] rfl ?_
  refine J.to ?_ ?_ (hl2 _ 0 σ (Nat.zero_le _) rfl rfl)
  · first | (rfl) | fail
  · first | (first | rfl | (simp only [nI_s]; done) | (simp only [nI_s, it_s]; done) | (simp [nI_s, it_s, ]; done)) | fail

