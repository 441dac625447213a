theorem rdk_o {s : St} {n o : Nat} (h : o ≠ 88) : (rdk s n).1 o = s o := by
  induction n with
  | zero => rfl
  | succ n ih =>
    show (rdB n (rdk s n)).1 o = _
    unfold rdB; split
    · show rs (rdk s n).1 87 12 _ _ o = _; rw [rs_o h, ih]
    · show rs (rdk s n).1 87 12 _ _ o = _; rw [rs_o h, ih]
theorem sdS_o {s : St} {c : Int32} {o : Nat} (h : o ≠ 86) (h2 : o ≠ 88) : sdS s c o = s o := by unfold sdS; rw [rdk_o h2, sd1_o h]
theorem shL_o {s : St} {c p r : Int32} {o : Nat} (h : o ≠ 86) (h2 : o ≠ 88) : shL s c p r o = s o := by unfold shL; rw [rdk_o h2, slS_o h]
theorem pb1_o {s : St} {q : Nat} {r : Int32} {n o : Nat} (h : o ≠ 86) : pb1 s q r n o = s o := by
  induction n with
  | zero => rfl
  | succ n ih => show rs (pb1 s q r n) 85 12 _ _ o = _; rw [rs_o h, ih]
theorem pb0_o {s : St} {q o : Nat} (h : o ≠ 56) (h2 : o ≠ 90) (h3 : o ≠ 92) : pb0 s q o = s o := by unfold pb0 tln; rw [rs_o h, rs_o h, fl_o h3, fl_o h2]
theorem pbS_o {s : St} {q o : Nat} (h : o ≠ 56) (h2 : o ≠ 90) (h3 : o ≠ 92) (h4 : o ≠ 86) (h5 : o ≠ 88) : pbS s q o = s o := by unfold pbS; rw [rdk_o h5, pb1_o h4, pb0_o h h2 h3]
theorem lkS_o {s : St} {o : Nat} (h : o ≠ 95) (h2 : o ≠ 97) : lkS s o = s o := by unfold lkS; rw [lkD_o h2, lk1_o h]
def pdZ (s : St) (ships : Int32) (k : Nat) : Int32 × St := pqF (sdS s (coC s (nI k))) ships (ct (cM (sdS s (coC s (nI k))) 3))
def pdB (ships : Int32) (k : Nat) (s : St) : St := if (pdZ s ships k).1 ≤ (pdZ s ships k).2 93 2 then (pdZ s ships k).2 else up (up (pdZ s ships k).2 93 2 (pdZ s ships k).1) 93 3 (coC s (nI k))
def pdN (s : St) (ships : Int32) (n : Nat) : St := it (pdB ships) s n
theorem pdN_1 {s : St} {ships : Int32} {i : Nat} (h : (pdZ (pdN s ships i) ships i).1 ≤ (pdZ (pdN s ships i) ships i).2 93 2) : pdN s ships (i + 1) = (pdZ (pdN s ships i) ships i).2 := if_pos h
theorem pdN_2 {s : St} {ships : Int32} {i : Nat} (h : ¬ (pdZ (pdN s ships i) ships i).1 ≤ (pdZ (pdN s ships i) ships i).2 93 2) : pdN s ships (i + 1) = up (up (pdZ (pdN s ships i) ships i).2 93 2 (pdZ (pdN s ships i) ships i).1) 93 3 (coC (pdN s ships i) (nI i)) := if_neg h
theorem pdN_6 {s : St} {ships : Int32} {n : Nat} : pdN s ships n 6 = s 6 := by
  induction n with
  | zero => rfl
  | succ n ih =>
    have h : (pdZ (pdN s ships n) ships n).2 6 = s 6 := by
      unfold pdZ; rw [pqF_o (by decide) (by decide) (by decide) (by decide), sdS_o (by decide) (by decide), ih]
    show pdB ships n (pdN s ships n) 6 = _
    unfold pdB; split
    · exact h
    · rw [up_o (by decide), up_o (by decide)]; exact h
def wyN (σ : St) (n : Nat) : Int32 := it (fun _ w => w * cM σ 0) 1 n
def pd0 (σ : St) : St := up (lkS (pbS σ 81)) 93 2 (-1)
theorem pd0_6 {σ : St} : pd0 σ 6 = σ 6 := by unfold pd0; rw [up_o (by decide), lkS_o (by decide) (by decide), pbS_o (by decide) (by decide) (by decide) (by decide) (by decide)]
def pdS (σ : St) (ships : Int32) : St := pdN (pd0 σ) ships (ct (wyN σ (ct (cM σ 2))))
theorem pd_c {σ : St} {ships : Int32} {n : Nat} {k : Int32} : cM (pdN (pd0 σ) ships n) k = cM σ k := by unfold cM; rw [pdN_6, pd0_6]
/-! where a lamp -/
def wnN (s : St) (n : Nat) : St := it (fun m s => rs s 94 12 (nI m) (rg (s 86) 12 (nI m))) s n
theorem wnN_o {s : St} {n o : Nat} (h : o ≠ 95) : wnN s n o = s o := by
  induction n with
  | zero => rfl
  | succ n ih => show rs (wnN s n) 94 12 _ _ o = _; rw [rs_o h, ih]
def plZ (s : St) (c p r : Int32) : Int32 × St := sfF (shL s c p r) (ct (cM (shL s c p r) 3))
def plB (c p r : Int32) (s : St) : St := if (plZ s c p r).1 ≤ (plZ s c p r).2 93 2 then (plZ s c p r).2 else up (up (up (plZ s c p r).2 93 2 (plZ s c p r).1) 93 4 c) 93 5 p
def plP (s : St) (c r : Int32) (n : Nat) : St := it (fun p s => plB c (nI (p + 1)) r s) s n
def plQ (s : St) (c r : Int32) : St := plP s c r 9
def plC (s : St) (r : Int32) (n : Nat) : St := it (fun c s => plQ s (nI c) r) s n
theorem plC_q {s : St} {r : Int32} {n : Nat} : plC s r (n + 1) = plQ (plC s r n) (nI n) r := by unfold plC; simp only [it_s]
theorem plQ_p {s : St} {c r : Int32} : plQ s c r = plP s c r 9 := by unfold plQ; exact Eq.refl _
theorem plP_s {s : St} {c r : Int32} {i : Nat} : plP s c r (i + 1) = if (plZ (plP s c r i) c (nI (i + 1)) r).1 ≤ (plZ (plP s c r i) c (nI (i + 1)) r).2 93 2 then (plZ (plP s c r i) c (nI (i + 1)) r).2 else up (up (up (plZ (plP s c r i) c (nI (i + 1)) r).2 93 2 (plZ (plP s c r i) c (nI (i + 1)) r).1) 93 4 c) 93 5 (nI (i + 1)) := by unfold plP; simp only [it_s]; rfl
theorem plP_1 {s : St} {c r : Int32} {i : Nat} (h : (plZ (plP s c r i) c (nI (i + 1)) r).1 ≤ (plZ (plP s c r i) c (nI (i + 1)) r).2 93 2) : plP s c r (i + 1) = (plZ (plP s c r i) c (nI (i + 1)) r).2 := if_pos h
theorem plP_2 {s : St} {c r : Int32} {i : Nat} (h : ¬ (plZ (plP s c r i) c (nI (i + 1)) r).1 ≤ (plZ (plP s c r i) c (nI (i + 1)) r).2 93 2) : plP s c r (i + 1) = up (up (up (plZ (plP s c r i) c (nI (i + 1)) r).2 93 2 (plZ (plP s c r i) c (nI (i + 1)) r).1) 93 4 c) 93 5 (nI (i + 1)) := if_neg h
theorem plP_6 {s : St} {c r : Int32} {n : Nat} : plP s c r n 6 = s 6 := by
  induction n with
  | zero => rfl
  | succ n ih =>
    have h : (plZ (plP s c r n) c (nI (n + 1)) r).2 6 = s 6 := by
      unfold plZ; rw [sfF_o (by decide) (by decide) (by decide) (by decide), shL_o (by decide) (by decide), ih]
    show plB c (nI (n + 1)) r (plP s c r n) 6 = _
    unfold plB; split
    · exact h
    · rw [up_o (by decide), up_o (by decide), up_o (by decide)]; exact h
theorem plC_6 {s : St} {r : Int32} {n : Nat} : plC s r n 6 = s 6 := by
  induction n with
  | zero => rfl
  | succ n ih =>
    rw [plC_q, plQ_p, plP_6, ih]
def pm0 (σ : St) : St := wnN (pbS σ 81) (ct (cM (pbS σ 81) 0))
def plS (σ : St) : St := plC (up (pm0 σ) 93 2 (-1)) (rch (pm0 σ) 81) (ct (cM (up (pm0 σ) 93 2 (-1)) 0))

set_option maxRecDepth 20000 in
set_option maxHeartbeats 4000000 in
theorem c_Plans_placeDonkeys {l : Launch} {G : Gz} (hG : zI G) (σ : St) (ships : Int32) (hD : cM σ 2 = nI (ct (cM σ 2))) (hD3 : ct (cM σ 2) ≤ 3) : MV l G y_Plans_placeDonkeys prog_8_method_6_code 10 7 [.ref (G.1 93), .ref (G.1 4), .ref (G.1 50), .ref (G.1 81), .ref (G.1 84), .int ships] σ (pdS σ ships) := by
  refine MV.of hG (by decide) (Nat.le_of_ble_eq_true rfl) (fun X hx hq => ?_)
  show J l G X 10 σ 0 [(0, .ref (G.1 93)), (1, .ref (G.1 4)), (2, .ref (G.1 50)), (3, .ref (G.1 81)), (4, .ref (G.1 84)), (5, .int ships)] []
  refine j_iconst (v := 1) hx d_Plans_placeDonkeys_0 (by decide) ?_
  refine j_istore hx [(6, .int 1), (0, .ref (G.1 93)), (1, .ref (G.1 4)), (2, .ref (G.1 50)), (3, .ref (G.1 81)), (4, .ref (G.1 84)), (5, .int ships)] d_Plans_placeDonkeys_1 (by decide) rfl ?_
  refine j_iconst (v := 0) hx d_Plans_placeDonkeys_3 (by decide) ?_
  refine j_istore hx [(7, .int 0), (6, .int 1), (0, .ref (G.1 93)), (1, .ref (G.1 4)), (2, .ref (G.1 50)), (3, .ref (G.1 81)), (4, .ref (G.1 84)), (5, .int ships)] d_Plans_placeDonkeys_4 (by decide) rfl ?_
  have hl6 : ∀ (N9 : Nat) (i : Nat), (i ≤ (ct (cM σ 2))) → (ct (cM σ 2)) - i = N9 → J l G X 10 σ 6 [(0, .ref (G.1 93)), (1, .ref (G.1 4)), (2, .ref (G.1 50)), (3, .ref (G.1 81)), (4, .ref (G.1 84)), (5, .int ships), (6, .int (wyN σ i)), (7, .int (nI i))] [] := by
    intro N9
    induction N9 using Nat.strongRecOn with
    | _ N9 ih6 =>
      intro i hi_i hm6
      refine j_iload hx d_Plans_placeDonkeys_6 7 rfl ?_
      refine j_aload_n hx d_Plans_placeDonkeys_8 rfl 1 rfl ?_
      refine j_get hx ck_Coast 0 (by decide) t_86 (by decide) (sh_4 _ _) rfl d_Plans_placeDonkeys_9 ?_
      refine j_iconst (v := 2) hx d_Plans_placeDonkeys_12 (by decide) ?_
      refine j_callVi hx (c_Row_getA hG ir_5 6 rfl σ 2) mo_Row_get mv_Row_get t_1098 (by decide) rfl (by decide) (sh_5 _ _) rfl rfl (Nat.le_of_ble_eq_true rfl) d_Plans_placeDonkeys_13 ?_
      refine j_icmp_ge (tgt := 38) hx d_Plans_placeDonkeys_16 (by decide) (fun zc16 => ?_) (fun zc16 => ?_)
      · skip
        obtain rfl := ct_end' hi_i zc16
        refine j_aload hx d_Plans_placeDonkeys_38 4 rfl ?_
        refine j_aload_n hx d_Plans_placeDonkeys_40 rfl 1 rfl ?_
        refine j_aload_n hx d_Plans_placeDonkeys_41 rfl 2 rfl ?_
        refine j_aload_n hx d_Plans_placeDonkeys_42 rfl 3 rfl ?_
        refine j_callVv hx (c_Passing_begin hG isNights_81 σ) mo_Passing_begin mv_Passing_begin t_1099 (by decide) rfl (by decide) (sh_84 _ _) rfl rfl (Nat.le_of_ble_eq_true rfl) d_Plans_placeDonkeys_43 ?_
        refine j_aload_n hx d_Plans_placeDonkeys_46 rfl 0 rfl ?_
        refine j_aload_n hx d_Plans_placeDonkeys_47 rfl 1 rfl ?_
        refine j_aload_n hx d_Plans_placeDonkeys_48 rfl 3 rfl ?_
        refine j_callVv hx (c_Plans_lookWithoutDonkeys hG (pbS σ 81)) mo_Plans_lookWithoutDonkeys mv_Plans_lookWithoutDonkeys t_1100 (by decide) rfl (by decide) (sh_93 _ _) rfl rfl (Nat.le_of_ble_eq_true rfl) d_Plans_placeDonkeys_49 ?_
        refine j_aload_n hx d_Plans_placeDonkeys_52 rfl 0 rfl ?_
        refine j_iconst (v := (-1)) hx d_Plans_placeDonkeys_53 (by decide) ?_
        refine j_put hx ck_Plans 2 (by decide) t_265 (by decide) (sh_93 _ _) rfl (Nat.le_of_ble_eq_true rfl) (sh_93 _ _) d_Plans_placeDonkeys_54 ?_
        obtain ⟨s9_1, eg_1⟩ : ∃ z : St, z = pd0 σ := ⟨_, rfl⟩
        refine J.to (σ' := s9_1) (by rw [eg_1]; first | done | rfl) rfl ?_
        refine j_iconst (v := 0) hx d_Plans_placeDonkeys_57 (by decide) ?_
        refine j_istore hx [(7, .int 0), (0, .ref (G.1 93)), (1, .ref (G.1 4)), (2, .ref (G.1 50)), (3, .ref (G.1 81)), (4, .ref (G.1 84)), (5, .int ships), (6, .int (wyN σ (ct (cM σ 2))))] d_Plans_placeDonkeys_58 (by decide) rfl ?_
        have hl60 : ∀ (N9 : Nat) (j : Nat), (j ≤ (ct (wyN σ (ct (cM σ 2))))) → (ct (wyN σ (ct (cM σ 2)))) - j = N9 → J l G X 10 (pdN (pd0 σ) ships j) 60 [(0, .ref (G.1 93)), (1, .ref (G.1 4)), (2, .ref (G.1 50)), (3, .ref (G.1 81)), (4, .ref (G.1 84)), (5, .int ships), (6, .int (wyN σ (ct (cM σ 2)))), (7, .int (nI j))] [] := by
          intro N9
          induction N9 using Nat.strongRecOn with
          | _ N9 ih60 =>
            intro j hi_j hm60
            refine j_iload hx d_Plans_placeDonkeys_60 7 rfl ?_
            refine j_iload hx d_Plans_placeDonkeys_62 6 rfl ?_
            refine j_icmp_ge (tgt := 122) hx d_Plans_placeDonkeys_64 (by decide) (fun zc64 => ?_) (fun zc64 => ?_)
            · skip
              obtain rfl := ct_end' hi_j zc64
              exact j_vret hx hq d_Plans_placeDonkeys_122 (by first | (rfl) | fail)
            · skip
              have hlt60 := ct_go hi_j zc64
              refine j_aload_n hx d_Plans_placeDonkeys_67 rfl 1 rfl ?_
              refine j_iload hx d_Plans_placeDonkeys_68 7 rfl ?_
              refine j_callSi hx (c_Plans_cellsOf hG (pdN (pd0 σ) ships j) (nI j) (by rw [pd_c]; exact hD) (by rw [pd_c]; exact hD3)) mo_Plans_cellsOf t_1110 t_1109 (by decide) rfl rfl (Nat.le_of_ble_eq_true rfl) d_Plans_placeDonkeys_70 ?_
              refine j_istore hx [(8, .int (coC (pdN (pd0 σ) ships j) (nI j))), (0, .ref (G.1 93)), (1, .ref (G.1 4)), (2, .ref (G.1 50)), (3, .ref (G.1 81)), (4, .ref (G.1 84)), (5, .int ships), (6, .int (wyN σ (ct (cM σ 2)))), (7, .int (nI j))] d_Plans_placeDonkeys_73 (by decide) rfl ?_
              refine j_aload_n hx d_Plans_placeDonkeys_75 rfl 1 rfl ?_
              refine j_aload_n hx d_Plans_placeDonkeys_76 rfl 2 rfl ?_
              refine j_aload hx d_Plans_placeDonkeys_77 5 rfl ?_
              refine j_iload hx d_Plans_placeDonkeys_79 0 rfl ?_
              refine j_callVv hx (c_Plans_showDonkeys hG (pdN (pd0 σ) ships j) (coC (pdN (pd0 σ) ships j) (nI j))) mo_Plans_showDonkeys mv_Plans_showDonkeys t_1118 (by decide) rfl (by decide) (sh_93 _ _) rfl rfl (Nat.le_of_ble_eq_true rfl) d_Plans_placeDonkeys_81 ?_
              obtain ⟨s9_2, eg_2⟩ : ∃ z : St, z = sdS (pdN (pd0 σ) ships j) (coC (pdN (pd0 σ) ships j) (nI j)) := ⟨_, rfl⟩
              refine J.to (σ' := s9_2) (by rw [eg_2]; first | done | rfl) rfl ?_
              refine j_aload_n hx d_Plans_placeDonkeys_84 rfl 2 rfl ?_
              refine j_aload_n hx d_Plans_placeDonkeys_85 rfl 3 rfl ?_
              refine j_aload hx d_Plans_placeDonkeys_86 5 rfl ?_
              refine j_iload hx d_Plans_placeDonkeys_88 6 rfl ?_
              refine j_callSi hx (c_Plans_parishCargo hG s9_2 ships) mo_Plans_parishCargo t_1128 t_1127 (by decide) rfl rfl (Nat.le_of_ble_eq_true rfl) d_Plans_placeDonkeys_90 ?_
              refine j_istore hx [(9, .int ((pqF s9_2 ships (ct (cM s9_2 3))).1)), (8, .int (coC (pdN (pd0 σ) ships j) (nI j))), (0, .ref (G.1 93)), (1, .ref (G.1 4)), (2, .ref (G.1 50)), (3, .ref (G.1 81)), (4, .ref (G.1 84)), (5, .int ships), (6, .int (wyN σ (ct (cM σ 2)))), (7, .int (nI j))] d_Plans_placeDonkeys_93 (by decide) rfl ?_
              refine j_iload hx d_Plans_placeDonkeys_95 0 rfl ?_
              refine j_aload_n hx d_Plans_placeDonkeys_97 rfl 2 rfl ?_
              refine j_get hx ck_Plans 2 (by decide) t_265 (by decide) (sh_93 _ _) rfl d_Plans_placeDonkeys_98 ?_
              refine j_icmp_le (tgt := 116) hx d_Plans_placeDonkeys_101 (by decide) (fun zc101 => ?_) (fun zc101 => ?_)
              · skip
                refine j_iinc hx [(7, .int ((nI j) + 1)), (9, .int ((pqF s9_2 ships (ct (cM s9_2 3))).1)), (8, .int (coC (pdN (pd0 σ) ships j) (nI j))), (0, .ref (G.1 93)), (1, .ref (G.1 4)), (2, .ref (G.1 50)), (3, .ref (G.1 81)), (4, .ref (G.1 84)), (5, .int ships), (6, .int (wyN σ (ct (cM σ 2))))] d_Plans_placeDonkeys_116 9 rfl rfl (by decide) rfl ?_
                refine j_goto (tgt := 60) hx d_Plans_placeDonkeys_119 (by decide) ?_
                refine J.lsub (ls' := [(0, .ref (G.1 93)), (1, .ref (G.1 4)), (2, .ref (G.1 50)), (3, .ref (G.1 81)), (4, .ref (G.1 84)), (5, .int ships), (6, .int (wyN σ (ct (cM σ 2)))), (7, .int ((nI j) + 1))]) [3, 4, 5, 6, 7, 8, 9, 0] rfl ?_
                refine J.to ?_ ?_ (ih60 _ ?_ (j + 1) hlt60 rfl)
                · first | (first | (rw [eg_2] at zc101 ⊢; exact (pdN_1 zc101).symm) | (rw [eg_2] at zc101 ⊢; exact (pdN_2 zc101).symm)) | fail
                · first | (simp only [nI_s]) | fail
                · first | (omega) | fail
              · skip
                refine j_aload_n hx d_Plans_placeDonkeys_104 rfl 2 rfl ?_
                refine j_iload hx d_Plans_placeDonkeys_105 0 rfl ?_
                refine j_put hx ck_Plans 2 (by decide) t_265 (by decide) (sh_93 _ _) rfl (Nat.le_of_ble_eq_true rfl) (sh_93 _ _) d_Plans_placeDonkeys_107 ?_
                refine j_aload_n hx d_Plans_placeDonkeys_110 rfl 2 rfl ?_
                refine j_iload hx d_Plans_placeDonkeys_111 1 rfl ?_
                refine j_put hx ck_Plans 3 (by decide) t_266 (by decide) (sh_93 _ _) rfl (Nat.le_of_ble_eq_true rfl) (sh_93 _ _) d_Plans_placeDonkeys_113 ?_
                refine j_iinc hx [(7, .int ((nI j) + 1)), (9, .int ((pqF s9_2 ships (ct (cM s9_2 3))).1)), (8, .int (coC (pdN (pd0 σ) ships j) (nI j))), (0, .ref (G.1 93)), (1, .ref (G.1 4)), (2, .ref (G.1 50)), (3, .ref (G.1 81)), (4, .ref (G.1 84)), (5, .int ships), (6, .int (wyN σ (ct (cM σ 2))))] d_Plans_placeDonkeys_116 9 rfl rfl (by decide) rfl ?_
                refine j_goto (tgt := 60) hx d_Plans_placeDonkeys_119 (by decide) ?_
                refine J.lsub (ls' := [(0, .ref (G.1 93)), (1, .ref (G.1 4)), (2, .ref (G.1 50)), (3, .ref (G.1 81)), (4, .ref (G.1 84)), (5, .int ships), (6, .int (wyN σ (ct (cM σ 2)))), (7, .int ((nI j) + 1))]) [3, 4, 5, 6, 7, 8, 9, 0] rfl ?_
                refine J.to ?_ ?_ (ih60 _ ?_ (j + 1) hlt60 rfl)
                · first | (first | (rw [eg_2] at zc101 ⊢; exact (pdN_1 zc101).symm) | (rw [eg_2] at zc101 ⊢; exact (pdN_2 zc101).symm)) | fail
                · first | (simp only [nI_s]) | fail
                · first | (omega) | fail
        refine J.lsub (ls' := [(0, .ref (G.1 93)), (1, .ref (G.1 4)), (2, .ref (G.1 50)), (3, .ref (G.1 81)), (4, .ref (G.1 84)), (5, .int ships), (6, .int (wyN σ (ct (cM σ 2)))), (7, .int 0)]) [1, 2, 3, 4, 5, 6, 7, 0] rfl ?_
        refine J.to ?_ ?_ (hl60 _ 0 (Nat.zero_le _) rfl)
        · first | (rw [eg_1]; rfl) | fail
        · first | (first | rfl | (simp only [nI_s]; done) | (simp only [nI_s, it_s]; done) | (simp [nI_s, it_s, zc16]; done)) | fail
      · skip
        have hlt6 := ct_go hi_i zc16
        refine j_iload hx d_Plans_placeDonkeys_19 6 rfl ?_
        refine j_aload_n hx d_Plans_placeDonkeys_21 rfl 1 rfl ?_
        refine j_get hx ck_Coast 0 (by decide) t_86 (by decide) (sh_4 _ _) rfl d_Plans_placeDonkeys_22 ?_
        refine j_iconst (v := 0) hx d_Plans_placeDonkeys_25 (by decide) ?_
        refine j_callVi hx (c_Row_getA hG ir_5 6 rfl σ 0) mo_Row_get mv_Row_get t_1098 (by decide) rfl (by decide) (sh_5 _ _) rfl rfl (Nat.le_of_ble_eq_true rfl) d_Plans_placeDonkeys_26 ?_
        refine j_imul hx d_Plans_placeDonkeys_29 ?_
        refine j_istore hx [(6, .int ((wyN σ i) * (rg (σ (5 + 1)) 6 0))), (0, .ref (G.1 93)), (1, .ref (G.1 4)), (2, .ref (G.1 50)), (3, .ref (G.1 81)), (4, .ref (G.1 84)), (5, .int ships), (7, .int (nI i))] d_Plans_placeDonkeys_30 (by decide) rfl ?_
        refine j_iinc hx [(7, .int ((nI i) + 1)), (6, .int ((wyN σ i) * (rg (σ (5 + 1)) 6 0))), (0, .ref (G.1 93)), (1, .ref (G.1 4)), (2, .ref (G.1 50)), (3, .ref (G.1 81)), (4, .ref (G.1 84)), (5, .int ships)] d_Plans_placeDonkeys_32 7 rfl rfl (by decide) rfl ?_
        refine j_goto (tgt := 6) hx d_Plans_placeDonkeys_35 (by decide) ?_
        refine J.lsub (ls' := [(0, .ref (G.1 93)), (1, .ref (G.1 4)), (2, .ref (G.1 50)), (3, .ref (G.1 81)), (4, .ref (G.1 84)), (5, .int ships), (6, .int ((wyN σ i) * (rg (σ (5 + 1)) 6 0))), (7, .int ((nI i) + 1))]) [2, 3, 4, 5, 6, 7, 1, 0] rfl ?_
        refine J.to ?_ ?_ (ih6 _ ?_ (i + 1) hlt6 rfl)
        · first | (first | rfl | (simp [zc16]; done)) | fail
        · first | (simp only [nI_s]; rfl) | fail
        · first | (omega) | fail
  refine J.lsub (ls' := [(0, .ref (G.1 93)), (1, .ref (G.1 4)), (2, .ref (G.1 50)), (3, .ref (G.1 81)), (4, .ref (G.1 84)), (5, .int ships), (6, .int 1), (7, .int 0)]) [2, 3, 4, 5, 6, 7, 1, 0] rfl ?_
  refine J.to ?_ ?_ (hl6 _ 0 (Nat.zero_le _) rfl)
  · first | (first | rfl | (simp []; done)) | fail
  · first | (rfl) | fail

