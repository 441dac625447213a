theorem i_lelt {x y : Int32} (h : x ≤ y) : ¬ y < x := fun q => i_lle q h
def zL (w : Nat) : List Int32 := zsbyt.getD w [] ++ [32]
theorem zL_all : ∀ w, w < 5 → ∀ j, j < zslen.getD w 0 → (zL w)[j]? = some (zch w (nI j)) ∧ narrow .char (.int (zch w (nI j))) = .int (zch w (nI j)) := by decide +kernel
theorem zL_len : ∀ w, w < 5 → (zL w).length = zslen.getD w 0 + 1 ∧ zslen.getD w 0 < 100 := by decide +kernel
theorem zL_last : ∀ w, w < 5 → (zL w)[zslen.getD w 0]? = some 32 := by decide +kernel
theorem drop_cons {α : Type} {l : List α} {j : Nat} {x : α} (h : l[j]? = some x) : l.drop j = x :: l.drop (j + 1) := by
  obtain ⟨hj, rfl⟩ := List.getElem?_eq_some_iff.mp h
  exact List.drop_eq_getElem_cons hj
/-- which of the words, that 32 parts, stands from start to behind; the list: what is left of the text -/
def ixF (f : Nat → Int32) (start behind : Int32) : List Int32 → Int32 → Int32 → Int32 → Int32
  | [], _, _, _ => -1
  | c :: cs, ix, a, s => if c = 32 then (if ¬ s = 0 ∧ a = behind then ix else ixF f start behind cs (ix + 1) start 1) else ixF f start behind cs ix (a + 1) (if ¬ s = 0 ∧ a < behind ∧ rg f 600 a = c then 1 else 0)
def wix (σ : St) (w : Nat) (behind : Int32) : Int32 := ixF (σ 3) (σ 1 4) behind (zL w) 0 (σ 1 4) 1
theorem nI_lts {j n : Nat} (hj : j < 100000) (hn : n < 100000) (h : ¬ Int32.ofNat n < nI j) : j ≤ n := by
  rw [i_lt, i_nat (by omega), i_nI (by omega)] at h; omega
theorem nI_gts {j n : Nat} (hj : j < 100000) (hn : n < 100000) (h : Int32.ofNat n < nI j) : n < j := by
  rw [i_lt, i_nat (by omega), i_nI (by omega)] at h; omega
theorem nI_ge0 {j : Nat} (h : j < 100000) : ¬ nI j < 0 := by rw [i_lt, i_nI (by omega)]; have : (0 : Int32).toInt = 0 := rfl; omega
theorem nI_ltz {j n : Nat} (h : j < n) (hn : n < 100000) : nI j < Int32.ofNat n := by rw [i_lt, i_nat (by omega), i_nI (by omega)]; omega
/-- a word: its end, which it is, the tape behind it -/
def woE (σ : St) : Int32 := rn (σ 1 2) (isA (σ 3)) (σ 1 3)
def wo1 (σ : St) : St := up σ 1 4 (σ 1 3)
def woI (σ : St) (w : Nat) : Int32 := wix (wo1 σ) w (woE (wo1 σ))
def woS (σ : St) (w : Nat) : St := if woI σ w = -1 then bl (mvt (wo1 σ) (woE (wo1 σ))) 1 ((mvt (wo1 σ) (woE (wo1 σ))) 1 4) else mvt (wo1 σ) (woE (wo1 σ))
theorem ltn {x y : Int32} : (x < y) = ¬ (y ≤ x) := by rw [i_lt, i_le]; exact propext (by omega)

set_option maxRecDepth 20000 in
set_option maxHeartbeats 4000000 in
theorem c_Tape_indexOfItem {l : Launch} {G : Gz} (hG : zI G) (σ : St) (w : Nat) (behind : Int32) (hw : w < 5) : MI l G y_Tape_indexOfItem prog_10_method_18_code 8 .int 5 [.ref (G.1 1), .ref (G.2.2.2.2.1 w), .int behind] σ (wix σ w behind) σ := by
  refine MI.of hG (by decide) (Nat.le_of_ble_eq_true rfl) (fun X hx hq => ?_)
  show J l G X 8 σ 0 [(0, .ref (G.1 1)), (1, .ref (G.2.2.2.2.1 w)), (2, .int behind)] []
  have hL := zL_len w hw
  refine j_iconst (v := 0) hx d_Tape_indexOfItem_0 (by decide) ?_
  refine j_istore_n hx [(3, .int 0), (0, .ref (G.1 1)), (1, .ref (G.2.2.2.2.1 w)), (2, .int behind)] d_Tape_indexOfItem_1 rfl (by decide) rfl ?_
  refine j_aload_n hx d_Tape_indexOfItem_2 rfl 1 rfl ?_
  refine j_get hx ck_Tape 4 (by decide) t_56 (by decide) (sh_1 _ _) rfl d_Tape_indexOfItem_3 ?_
  refine j_istore hx [(4, .int (σ 1 4)), (3, .int 0), (0, .ref (G.1 1)), (1, .ref (G.2.2.2.2.1 w)), (2, .int behind)] d_Tape_indexOfItem_6 (by decide) rfl ?_
  refine j_iconst (v := 1) hx d_Tape_indexOfItem_8 (by decide) ?_
  refine j_istore hx [(5, .int 1), (4, .int (σ 1 4)), (3, .int 0), (0, .ref (G.1 1)), (1, .ref (G.2.2.2.2.1 w)), (2, .int behind)] d_Tape_indexOfItem_9 (by decide) rfl ?_
  refine j_iconst (v := 0) hx d_Tape_indexOfItem_11 (by decide) ?_
  refine j_istore hx [(6, .int 0), (5, .int 1), (4, .int (σ 1 4)), (3, .int 0), (0, .ref (G.1 1)), (1, .ref (G.2.2.2.2.1 w)), (2, .int behind)] d_Tape_indexOfItem_12 (by decide) rfl ?_
  have hl14 : ∀ (N9 : Nat) (j : Nat) (ix a sm : Int32), (j ≤ zslen.getD w 0 + 1) → (ixF (σ 3) (σ 1 4) behind ((zL w).drop j) ix a sm = wix σ w behind) → zslen.getD w 0 + 1 - j = N9 → J l G X 8 σ 14 [(0, .ref (G.1 1)), (1, .ref (G.2.2.2.2.1 w)), (2, .int behind), (3, .int ix), (4, .int a), (5, .int sm), (6, .int (nI j))] [] := by
    intro N9
    induction N9 using Nat.strongRecOn with
    | _ N9 ih14 =>
      intro j ix a sm hj hz hm14
      refine j_iload hx d_Tape_indexOfItem_14 6 rfl ?_
      refine j_aload_n hx d_Tape_indexOfItem_16 rfl 1 rfl ?_
      refine j_callTi hx (c_Sl hG σ (i := w) hw) mo_Sl mv_Sl t_667 (by decide) rfl hw rfl rfl (Nat.le_of_ble_eq_true rfl) d_Tape_indexOfItem_17 ?_
      refine j_icmp_gt (tgt := 121) hx d_Tape_indexOfItem_20 (by decide) (fun zc20 => ?_) (fun zc20 => ?_)
      · skip
        have hj2 := nI_gts (by omega) (by omega) zc20
        have hj3 : j = zslen.getD w 0 + 1 := by omega
        rw [hj3, ← hL.1, List.drop_length] at hz
        refine j_iconst (v := (-1)) hx d_Tape_indexOfItem_121 (by decide) ?_
        exact j_iret hx hq rfl d_Tape_indexOfItem_122 (by first | (exact hz) | fail) (by first | (rfl) | fail)
      · skip
        have hj2 := nI_lts (by omega) (by omega) zc20
        refine j_iload hx d_Tape_indexOfItem_23 6 rfl ?_
        refine j_aload_n hx d_Tape_indexOfItem_25 rfl 1 rfl ?_
        refine j_callTi hx (c_Sl hG σ (i := w) hw) mo_Sl mv_Sl t_667 (by decide) rfl hw rfl rfl (Nat.le_of_ble_eq_true rfl) d_Tape_indexOfItem_26 ?_
        refine j_icmp_ge (tgt := 41) hx d_Tape_indexOfItem_29 (by decide) (fun zc29 => ?_) (fun zc29 => ?_)
        · skip
          have hj3 : j = zslen.getD w 0 := by rw [i_le, i_nat (by omega), i_nI (by omega)] at zc29; omega
          have hd := drop_cons (show (zL w)[j]? = some 32 by rw [hj3]; exact zL_last w hw)
          refine j_bipush (v := 32) hx d_Tape_indexOfItem_41 (by decide) ?_
          refine j_istore hx [(7, .int 32), (0, .ref (G.1 1)), (1, .ref (G.2.2.2.2.1 w)), (2, .int behind), (3, .int ix), (4, .int a), (5, .int sm), (6, .int (nI j))] d_Tape_indexOfItem_43 (by decide) rfl ?_
          refine j_iload hx d_Tape_indexOfItem_45 0 rfl ?_
          refine j_bipush (v := 32) hx d_Tape_indexOfItem_47 (by decide) ?_
          refine j_icmp_eq (tgt := 90) hx d_Tape_indexOfItem_49 (by decide) (fun _ => ?_) (fun zc49 => absurd (by decide) zc49)
          refine j_iload hx d_Tape_indexOfItem_90 6 rfl ?_
          refine j_if_eq (tgt := 103) hx d_Tape_indexOfItem_92 (by decide) (fun zc92 => ?_) (fun zc92 => ?_)
          · skip
            refine j_iinc hx [(3, .int (ix + 1)), (7, .int 32), (0, .ref (G.1 1)), (1, .ref (G.2.2.2.2.1 w)), (2, .int behind), (4, .int a), (5, .int sm), (6, .int (nI j))] d_Tape_indexOfItem_103 4 rfl rfl (by decide) rfl ?_
            refine j_aload_n hx d_Tape_indexOfItem_106 rfl 2 rfl ?_
            refine j_get hx ck_Tape 4 (by decide) t_56 (by decide) (sh_1 _ _) rfl d_Tape_indexOfItem_107 ?_
            refine j_istore hx [(4, .int (σ 1 4)), (3, .int (ix + 1)), (7, .int 32), (0, .ref (G.1 1)), (1, .ref (G.2.2.2.2.1 w)), (2, .int behind), (5, .int sm), (6, .int (nI j))] d_Tape_indexOfItem_110 (by decide) rfl ?_
            refine j_iconst (v := 1) hx d_Tape_indexOfItem_112 (by decide) ?_
            refine j_istore hx [(5, .int 1), (4, .int (σ 1 4)), (3, .int (ix + 1)), (7, .int 32), (0, .ref (G.1 1)), (1, .ref (G.2.2.2.2.1 w)), (2, .int behind), (6, .int (nI j))] d_Tape_indexOfItem_113 (by decide) rfl ?_
            refine j_iinc hx [(6, .int ((nI j) + 1)), (5, .int 1), (4, .int (σ 1 4)), (3, .int (ix + 1)), (7, .int 32), (0, .ref (G.1 1)), (1, .ref (G.2.2.2.2.1 w)), (2, .int behind)] d_Tape_indexOfItem_115 7 rfl rfl (by decide) rfl ?_
            refine j_goto (tgt := 14) hx d_Tape_indexOfItem_118 (by decide) ?_
            refine J.lsub (ls' := [(0, .ref (G.1 1)), (1, .ref (G.2.2.2.2.1 w)), (2, .int behind), (3, .int (ix + 1)), (4, .int (σ 1 4)), (5, .int 1), (6, .int ((nI j) + 1))]) [5, 6, 7, 3, 2, 1, 0] rfl ?_
            refine J.to ?_ ?_ (ih14 _ ?_ (j + 1) (ix + 1) (σ 1 4) 1 (by omega) (by rw [← hz, hd]; simp only [ixF]; first | (simp [zc20, zc29, zc92]; done) | (rw [if_neg zc49]; first | exact (congrArg (ixF (σ 3) (σ 1 4) behind (List.drop (j + 1) (zL w)) ix (a + 1)) (if_pos (c := ¬ sm = 0 ∧ a < behind ∧ rg (σ 3) 600 a = zch w (nI j)) ⟨zc54, i_nle zc60, zc74⟩)).symm | exact (congrArg (ixF (σ 3) (σ 1 4) behind (List.drop (j + 1) (zL w)) ix (a + 1)) (if_neg (c := ¬ sm = 0 ∧ a < behind ∧ rg (σ 3) 600 a = zch w (nI j)) (fun z => zc74 z.2.2))).symm | exact (congrArg (ixF (σ 3) (σ 1 4) behind (List.drop (j + 1) (zL w)) ix (a + 1)) (if_neg (c := ¬ sm = 0 ∧ a < behind ∧ rg (σ 3) 600 a = zch w (nI j)) (fun z => i_lelt zc60 z.2.1))).symm | (exact (congrArg (ixF (σ 3) (σ 1 4) behind (List.drop (j + 1) (zL w)) ix (a + 1)) (if_neg (c := ¬ sm = 0 ∧ a < behind ∧ rg (σ 3) 600 a = zch w (nI j)) (fun z => i_lelt zc60 z.2.1))).symm))) rfl)
            · first | (first | rfl | (simp [zc20, zc29, zc92]; done)) | fail
            · first | (simp only [nI_s]) | fail
            · first | (omega) | fail
          · skip
            refine j_iload hx d_Tape_indexOfItem_95 5 rfl ?_
            refine j_iload_n hx d_Tape_indexOfItem_97 rfl 3 rfl ?_
            refine j_icmp_ne (tgt := 103) hx d_Tape_indexOfItem_98 (by decide) (fun zc98 => ?_) (fun zc98 => ?_)
            · skip
              refine j_iinc hx [(3, .int (ix + 1)), (7, .int 32), (0, .ref (G.1 1)), (1, .ref (G.2.2.2.2.1 w)), (2, .int behind), (4, .int a), (5, .int sm), (6, .int (nI j))] d_Tape_indexOfItem_103 4 rfl rfl (by decide) rfl ?_
              refine j_aload_n hx d_Tape_indexOfItem_106 rfl 2 rfl ?_
              refine j_get hx ck_Tape 4 (by decide) t_56 (by decide) (sh_1 _ _) rfl d_Tape_indexOfItem_107 ?_
              refine j_istore hx [(4, .int (σ 1 4)), (3, .int (ix + 1)), (7, .int 32), (0, .ref (G.1 1)), (1, .ref (G.2.2.2.2.1 w)), (2, .int behind), (5, .int sm), (6, .int (nI j))] d_Tape_indexOfItem_110 (by decide) rfl ?_
              refine j_iconst (v := 1) hx d_Tape_indexOfItem_112 (by decide) ?_
              refine j_istore hx [(5, .int 1), (4, .int (σ 1 4)), (3, .int (ix + 1)), (7, .int 32), (0, .ref (G.1 1)), (1, .ref (G.2.2.2.2.1 w)), (2, .int behind), (6, .int (nI j))] d_Tape_indexOfItem_113 (by decide) rfl ?_
              refine j_iinc hx [(6, .int ((nI j) + 1)), (5, .int 1), (4, .int (σ 1 4)), (3, .int (ix + 1)), (7, .int 32), (0, .ref (G.1 1)), (1, .ref (G.2.2.2.2.1 w)), (2, .int behind)] d_Tape_indexOfItem_115 7 rfl rfl (by decide) rfl ?_
              refine j_goto (tgt := 14) hx d_Tape_indexOfItem_118 (by decide) ?_
              refine J.lsub (ls' := [(0, .ref (G.1 1)), (1, .ref (G.2.2.2.2.1 w)), (2, .int behind), (3, .int (ix + 1)), (4, .int (σ 1 4)), (5, .int 1), (6, .int ((nI j) + 1))]) [5, 6, 7, 3, 2, 1, 0] rfl ?_
              refine J.to ?_ ?_ (ih14 _ ?_ (j + 1) (ix + 1) (σ 1 4) 1 (by omega) (by rw [← hz, hd]; simp only [ixF]; first | (simp [zc20, zc29, zc92, zc98]; done) | (rw [if_neg zc49]; first | exact (congrArg (ixF (σ 3) (σ 1 4) behind (List.drop (j + 1) (zL w)) ix (a + 1)) (if_pos (c := ¬ sm = 0 ∧ a < behind ∧ rg (σ 3) 600 a = zch w (nI j)) ⟨zc54, i_nle zc60, zc74⟩)).symm | exact (congrArg (ixF (σ 3) (σ 1 4) behind (List.drop (j + 1) (zL w)) ix (a + 1)) (if_neg (c := ¬ sm = 0 ∧ a < behind ∧ rg (σ 3) 600 a = zch w (nI j)) (fun z => zc74 z.2.2))).symm | exact (congrArg (ixF (σ 3) (σ 1 4) behind (List.drop (j + 1) (zL w)) ix (a + 1)) (if_neg (c := ¬ sm = 0 ∧ a < behind ∧ rg (σ 3) 600 a = zch w (nI j)) (fun z => i_lelt zc60 z.2.1))).symm | (exact (congrArg (ixF (σ 3) (σ 1 4) behind (List.drop (j + 1) (zL w)) ix (a + 1)) (if_neg (c := ¬ sm = 0 ∧ a < behind ∧ rg (σ 3) 600 a = zch w (nI j)) (fun z => i_lelt zc60 z.2.1))).symm))) rfl)
              · first | (first | rfl | (simp [zc20, zc29, zc92, zc98]; done)) | fail
              · first | (simp only [nI_s]) | fail
              · first | (omega) | fail
            · skip
              refine j_iload_n hx d_Tape_indexOfItem_101 rfl 4 rfl ?_
              exact j_iret hx hq rfl d_Tape_indexOfItem_102 (by first | (rw [← hz, hd]; simp only [ixF]; first | (simp [zc49, zc92, zc98]; done) | (simp [zc92, zc98]; done)) | fail) (by first | (rfl) | fail)
        · skip
          have hjl : j < zslen.getD w 0 := by rw [i_le, i_nat (by omega), i_nI (by omega)] at zc29; omega
          have hd := drop_cons (zL_all w hw j hjl).1
          refine j_aload_n hx d_Tape_indexOfItem_32 rfl 1 rfl ?_
          refine j_iload hx d_Tape_indexOfItem_33 6 rfl ?_
          refine j_callTi hx (c_Sa hG σ (nI j) (i := w) hw (nI_ge0 (by omega)) (nI_ltz hjl (by omega)) (vp_in_nt hjl (by omega)) (zL_all w hw j hjl).2) mo_Sa mv_Sa t_677 (by decide) rfl hw rfl rfl (Nat.le_of_ble_eq_true rfl) d_Tape_indexOfItem_35 ?_
          refine j_goto (tgt := 43) hx d_Tape_indexOfItem_38 (by decide) ?_
          refine j_istore hx [(7, .int (zch w (nI j))), (0, .ref (G.1 1)), (1, .ref (G.2.2.2.2.1 w)), (2, .int behind), (3, .int ix), (4, .int a), (5, .int sm), (6, .int (nI j))] d_Tape_indexOfItem_43 (by decide) rfl ?_
          refine j_iload hx d_Tape_indexOfItem_45 0 rfl ?_
          refine j_bipush (v := 32) hx d_Tape_indexOfItem_47 (by decide) ?_
          refine j_icmp_eq (tgt := 90) hx d_Tape_indexOfItem_49 (by decide) (fun zc49 => ?_) (fun zc49 => ?_)
          · skip
            refine j_iload hx d_Tape_indexOfItem_90 6 rfl ?_
            refine j_if_eq (tgt := 103) hx d_Tape_indexOfItem_92 (by decide) (fun zc92 => ?_) (fun zc92 => ?_)
            · skip
              refine j_iinc hx [(3, .int (ix + 1)), (7, .int (zch w (nI j))), (0, .ref (G.1 1)), (1, .ref (G.2.2.2.2.1 w)), (2, .int behind), (4, .int a), (5, .int sm), (6, .int (nI j))] d_Tape_indexOfItem_103 4 rfl rfl (by decide) rfl ?_
              refine j_aload_n hx d_Tape_indexOfItem_106 rfl 2 rfl ?_
              refine j_get hx ck_Tape 4 (by decide) t_56 (by decide) (sh_1 _ _) rfl d_Tape_indexOfItem_107 ?_
              refine j_istore hx [(4, .int (σ 1 4)), (3, .int (ix + 1)), (7, .int (zch w (nI j))), (0, .ref (G.1 1)), (1, .ref (G.2.2.2.2.1 w)), (2, .int behind), (5, .int sm), (6, .int (nI j))] d_Tape_indexOfItem_110 (by decide) rfl ?_
              refine j_iconst (v := 1) hx d_Tape_indexOfItem_112 (by decide) ?_
              refine j_istore hx [(5, .int 1), (4, .int (σ 1 4)), (3, .int (ix + 1)), (7, .int (zch w (nI j))), (0, .ref (G.1 1)), (1, .ref (G.2.2.2.2.1 w)), (2, .int behind), (6, .int (nI j))] d_Tape_indexOfItem_113 (by decide) rfl ?_
              refine j_iinc hx [(6, .int ((nI j) + 1)), (5, .int 1), (4, .int (σ 1 4)), (3, .int (ix + 1)), (7, .int (zch w (nI j))), (0, .ref (G.1 1)), (1, .ref (G.2.2.2.2.1 w)), (2, .int behind)] d_Tape_indexOfItem_115 7 rfl rfl (by decide) rfl ?_
              refine j_goto (tgt := 14) hx d_Tape_indexOfItem_118 (by decide) ?_
              refine J.lsub (ls' := [(0, .ref (G.1 1)), (1, .ref (G.2.2.2.2.1 w)), (2, .int behind), (3, .int (ix + 1)), (4, .int (σ 1 4)), (5, .int 1), (6, .int ((nI j) + 1))]) [5, 6, 7, 3, 2, 1, 0] rfl ?_
              refine J.to ?_ ?_ (ih14 _ ?_ (j + 1) (ix + 1) (σ 1 4) 1 (by omega) (by rw [← hz, hd]; simp only [ixF]; first | (simp [zc20, zc29, zc49, zc92]; done) | (rw [if_neg zc49]; first | exact (congrArg (ixF (σ 3) (σ 1 4) behind (List.drop (j + 1) (zL w)) ix (a + 1)) (if_pos (c := ¬ sm = 0 ∧ a < behind ∧ rg (σ 3) 600 a = zch w (nI j)) ⟨zc54, i_nle zc60, zc74⟩)).symm | exact (congrArg (ixF (σ 3) (σ 1 4) behind (List.drop (j + 1) (zL w)) ix (a + 1)) (if_neg (c := ¬ sm = 0 ∧ a < behind ∧ rg (σ 3) 600 a = zch w (nI j)) (fun z => zc74 z.2.2))).symm | exact (congrArg (ixF (σ 3) (σ 1 4) behind (List.drop (j + 1) (zL w)) ix (a + 1)) (if_neg (c := ¬ sm = 0 ∧ a < behind ∧ rg (σ 3) 600 a = zch w (nI j)) (fun z => i_lelt zc60 z.2.1))).symm | (exact (congrArg (ixF (σ 3) (σ 1 4) behind (List.drop (j + 1) (zL w)) ix (a + 1)) (if_neg (c := ¬ sm = 0 ∧ a < behind ∧ rg (σ 3) 600 a = zch w (nI j)) (fun z => i_lelt zc60 z.2.1))).symm))) rfl)
              · first | (first | rfl | (simp [zc20, zc29, zc49, zc92]; done)) | fail
              · first | (simp only [nI_s]) | fail
              · first | (omega) | fail
            · skip
              refine j_iload hx d_Tape_indexOfItem_95 5 rfl ?_
              refine j_iload_n hx d_Tape_indexOfItem_97 rfl 3 rfl ?_
              refine j_icmp_ne (tgt := 103) hx d_Tape_indexOfItem_98 (by decide) (fun zc98 => ?_) (fun zc98 => ?_)
              · skip
                refine j_iinc hx [(3, .int (ix + 1)), (7, .int (zch w (nI j))), (0, .ref (G.1 1)), (1, .ref (G.2.2.2.2.1 w)), (2, .int behind), (4, .int a), (5, .int sm), (6, .int (nI j))] d_Tape_indexOfItem_103 4 rfl rfl (by decide) rfl ?_
                refine j_aload_n hx d_Tape_indexOfItem_106 rfl 2 rfl ?_
                refine j_get hx ck_Tape 4 (by decide) t_56 (by decide) (sh_1 _ _) rfl d_Tape_indexOfItem_107 ?_
                refine j_istore hx [(4, .int (σ 1 4)), (3, .int (ix + 1)), (7, .int (zch w (nI j))), (0, .ref (G.1 1)), (1, .ref (G.2.2.2.2.1 w)), (2, .int behind), (5, .int sm), (6, .int (nI j))] d_Tape_indexOfItem_110 (by decide) rfl ?_
                refine j_iconst (v := 1) hx d_Tape_indexOfItem_112 (by decide) ?_
                refine j_istore hx [(5, .int 1), (4, .int (σ 1 4)), (3, .int (ix + 1)), (7, .int (zch w (nI j))), (0, .ref (G.1 1)), (1, .ref (G.2.2.2.2.1 w)), (2, .int behind), (6, .int (nI j))] d_Tape_indexOfItem_113 (by decide) rfl ?_
                refine j_iinc hx [(6, .int ((nI j) + 1)), (5, .int 1), (4, .int (σ 1 4)), (3, .int (ix + 1)), (7, .int (zch w (nI j))), (0, .ref (G.1 1)), (1, .ref (G.2.2.2.2.1 w)), (2, .int behind)] d_Tape_indexOfItem_115 7 rfl rfl (by decide) rfl ?_
                refine j_goto (tgt := 14) hx d_Tape_indexOfItem_118 (by decide) ?_
                refine J.lsub (ls' := [(0, .ref (G.1 1)), (1, .ref (G.2.2.2.2.1 w)), (2, .int behind), (3, .int (ix + 1)), (4, .int (σ 1 4)), (5, .int 1), (6, .int ((nI j) + 1))]) [5, 6, 7, 3, 2, 1, 0] rfl ?_
                refine J.to ?_ ?_ (ih14 _ ?_ (j + 1) (ix + 1) (σ 1 4) 1 (by omega) (by rw [← hz, hd]; simp only [ixF]; first | (simp [zc20, zc29, zc49, zc92, zc98]; done) | (rw [if_neg zc49]; first | exact (congrArg (ixF (σ 3) (σ 1 4) behind (List.drop (j + 1) (zL w)) ix (a + 1)) (if_pos (c := ¬ sm = 0 ∧ a < behind ∧ rg (σ 3) 600 a = zch w (nI j)) ⟨zc54, i_nle zc60, zc74⟩)).symm | exact (congrArg (ixF (σ 3) (σ 1 4) behind (List.drop (j + 1) (zL w)) ix (a + 1)) (if_neg (c := ¬ sm = 0 ∧ a < behind ∧ rg (σ 3) 600 a = zch w (nI j)) (fun z => zc74 z.2.2))).symm | exact (congrArg (ixF (σ 3) (σ 1 4) behind (List.drop (j + 1) (zL w)) ix (a + 1)) (if_neg (c := ¬ sm = 0 ∧ a < behind ∧ rg (σ 3) 600 a = zch w (nI j)) (fun z => i_lelt zc60 z.2.1))).symm | (exact (congrArg (ixF (σ 3) (σ 1 4) behind (List.drop (j + 1) (zL w)) ix (a + 1)) (if_neg (c := ¬ sm = 0 ∧ a < behind ∧ rg (σ 3) 600 a = zch w (nI j)) (fun z => i_lelt zc60 z.2.1))).symm))) rfl)
                · first | (first | rfl | (simp [zc20, zc29, zc49, zc92, zc98]; done)) | fail
                · first | (simp only [nI_s]) | fail
                · first | (omega) | fail
              · skip
                refine j_iload_n hx d_Tape_indexOfItem_101 rfl 4 rfl ?_
                exact j_iret hx hq rfl d_Tape_indexOfItem_102 (by first | (rw [← hz, hd]; simp only [ixF]; first | (simp [zc49, zc92, zc98]; done) | (simp [zc92, zc98]; done)) | fail) (by first | (rfl) | fail)
          · skip
            refine j_iload hx d_Tape_indexOfItem_52 6 rfl ?_
            refine j_if_eq (tgt := 81) hx d_Tape_indexOfItem_54 (by decide) (fun zc54 => ?_) (fun zc54 => ?_)
            · skip
              refine j_iconst (v := 0) hx d_Tape_indexOfItem_81 (by decide) ?_
              refine j_istore hx [(5, .int 0), (7, .int (zch w (nI j))), (0, .ref (G.1 1)), (1, .ref (G.2.2.2.2.1 w)), (2, .int behind), (3, .int ix), (4, .int a), (6, .int (nI j))] d_Tape_indexOfItem_82 (by decide) rfl ?_
              refine j_iinc hx [(4, .int (a + 1)), (5, .int 0), (7, .int (zch w (nI j))), (0, .ref (G.1 1)), (1, .ref (G.2.2.2.2.1 w)), (2, .int behind), (3, .int ix), (6, .int (nI j))] d_Tape_indexOfItem_84 6 rfl rfl (by decide) rfl ?_
              refine j_goto (tgt := 115) hx d_Tape_indexOfItem_87 (by decide) ?_
              refine j_iinc hx [(6, .int ((nI j) + 1)), (4, .int (a + 1)), (5, .int 0), (7, .int (zch w (nI j))), (0, .ref (G.1 1)), (1, .ref (G.2.2.2.2.1 w)), (2, .int behind), (3, .int ix)] d_Tape_indexOfItem_115 7 rfl rfl (by decide) rfl ?_
              refine j_goto (tgt := 14) hx d_Tape_indexOfItem_118 (by decide) ?_
              refine J.lsub (ls' := [(0, .ref (G.1 1)), (1, .ref (G.2.2.2.2.1 w)), (2, .int behind), (3, .int ix), (4, .int (a + 1)), (5, .int 0), (6, .int ((nI j) + 1))]) [4, 5, 6, 7, 1, 2, 0] rfl ?_
              refine J.to ?_ ?_ (ih14 _ ?_ (j + 1) ix (a + 1) 0 (by omega) (by rw [← hz, hd]; simp only [ixF]; first | (simp [zc20, zc29, zc49, zc54]; done) | (rw [if_neg zc49]; first | exact (congrArg (ixF (σ 3) (σ 1 4) behind (List.drop (j + 1) (zL w)) ix (a + 1)) (if_pos (c := ¬ sm = 0 ∧ a < behind ∧ rg (σ 3) 600 a = zch w (nI j)) ⟨zc54, i_nle zc60, zc74⟩)).symm | exact (congrArg (ixF (σ 3) (σ 1 4) behind (List.drop (j + 1) (zL w)) ix (a + 1)) (if_neg (c := ¬ sm = 0 ∧ a < behind ∧ rg (σ 3) 600 a = zch w (nI j)) (fun z => zc74 z.2.2))).symm | exact (congrArg (ixF (σ 3) (σ 1 4) behind (List.drop (j + 1) (zL w)) ix (a + 1)) (if_neg (c := ¬ sm = 0 ∧ a < behind ∧ rg (σ 3) 600 a = zch w (nI j)) (fun z => i_lelt zc60 z.2.1))).symm | (exact (congrArg (ixF (σ 3) (σ 1 4) behind (List.drop (j + 1) (zL w)) ix (a + 1)) (if_neg (c := ¬ sm = 0 ∧ a < behind ∧ rg (σ 3) 600 a = zch w (nI j)) (fun z => i_lelt zc60 z.2.1))).symm))) rfl)
              · first | (first | rfl | (simp [zc20, zc29, zc49, zc54]; done)) | fail
              · first | (simp only [nI_s]) | fail
              · first | (omega) | fail
            · skip
              refine j_iload hx d_Tape_indexOfItem_57 5 rfl ?_
              refine j_iload_n hx d_Tape_indexOfItem_59 rfl 3 rfl ?_
              refine j_icmp_ge (tgt := 81) hx d_Tape_indexOfItem_60 (by decide) (fun zc60 => ?_) (fun zc60 => ?_)
              · skip
                refine j_iconst (v := 0) hx d_Tape_indexOfItem_81 (by decide) ?_
                refine j_istore hx [(5, .int 0), (7, .int (zch w (nI j))), (0, .ref (G.1 1)), (1, .ref (G.2.2.2.2.1 w)), (2, .int behind), (3, .int ix), (4, .int a), (6, .int (nI j))] d_Tape_indexOfItem_82 (by decide) rfl ?_
                refine j_iinc hx [(4, .int (a + 1)), (5, .int 0), (7, .int (zch w (nI j))), (0, .ref (G.1 1)), (1, .ref (G.2.2.2.2.1 w)), (2, .int behind), (3, .int ix), (6, .int (nI j))] d_Tape_indexOfItem_84 6 rfl rfl (by decide) rfl ?_
                refine j_goto (tgt := 115) hx d_Tape_indexOfItem_87 (by decide) ?_
                refine j_iinc hx [(6, .int ((nI j) + 1)), (4, .int (a + 1)), (5, .int 0), (7, .int (zch w (nI j))), (0, .ref (G.1 1)), (1, .ref (G.2.2.2.2.1 w)), (2, .int behind), (3, .int ix)] d_Tape_indexOfItem_115 7 rfl rfl (by decide) rfl ?_
                refine j_goto (tgt := 14) hx d_Tape_indexOfItem_118 (by decide) ?_
                refine J.lsub (ls' := [(0, .ref (G.1 1)), (1, .ref (G.2.2.2.2.1 w)), (2, .int behind), (3, .int ix), (4, .int (a + 1)), (5, .int 0), (6, .int ((nI j) + 1))]) [4, 5, 6, 7, 1, 2, 0] rfl ?_
                refine J.to ?_ ?_ (ih14 _ ?_ (j + 1) ix (a + 1) 0 (by omega) (by rw [← hz, hd]; simp only [ixF]; first | (simp [zc20, zc29, zc49, zc54, zc60]; done) | (rw [if_neg zc49]; first | exact (congrArg (ixF (σ 3) (σ 1 4) behind (List.drop (j + 1) (zL w)) ix (a + 1)) (if_pos (c := ¬ sm = 0 ∧ a < behind ∧ rg (σ 3) 600 a = zch w (nI j)) ⟨zc54, i_nle zc60, zc74⟩)).symm | exact (congrArg (ixF (σ 3) (σ 1 4) behind (List.drop (j + 1) (zL w)) ix (a + 1)) (if_neg (c := ¬ sm = 0 ∧ a < behind ∧ rg (σ 3) 600 a = zch w (nI j)) (fun z => zc74 z.2.2))).symm | exact (congrArg (ixF (σ 3) (σ 1 4) behind (List.drop (j + 1) (zL w)) ix (a + 1)) (if_neg (c := ¬ sm = 0 ∧ a < behind ∧ rg (σ 3) 600 a = zch w (nI j)) (fun z => i_lelt zc60 z.2.1))).symm | (exact (congrArg (ixF (σ 3) (σ 1 4) behind (List.drop (j + 1) (zL w)) ix (a + 1)) (if_neg (c := ¬ sm = 0 ∧ a < behind ∧ rg (σ 3) 600 a = zch w (nI j)) (fun z => i_lelt zc60 z.2.1))).symm))) rfl)
                · first | (first | rfl | (simp [zc20, zc29, zc49, zc54, zc60]; done)) | fail
                · first | (simp only [nI_s]) | fail
                · first | (omega) | fail
              · skip
                refine j_aload_n hx d_Tape_indexOfItem_63 rfl 1 rfl ?_
                refine j_get hx ck_Tape 0 (by decide) t_52 (by decide) (sh_1 _ _) rfl d_Tape_indexOfItem_64 ?_
                refine j_iload hx d_Tape_indexOfItem_67 5 rfl ?_
                refine j_callVi hx (c_Row_getA hG ir_2 3 rfl σ a) mo_Row_get mv_Row_get t_641 (by decide) rfl (by decide) (sh_2 _ _) rfl rfl (Nat.le_of_ble_eq_true rfl) d_Tape_indexOfItem_69 ?_
                refine j_iload hx d_Tape_indexOfItem_72 0 rfl ?_
                refine j_icmp_ne (tgt := 81) hx d_Tape_indexOfItem_74 (by decide) (fun zc74 => ?_) (fun zc74 => ?_)
                · skip
                  refine j_iconst (v := 0) hx d_Tape_indexOfItem_81 (by decide) ?_
                  refine j_istore hx [(5, .int 0), (7, .int (zch w (nI j))), (0, .ref (G.1 1)), (1, .ref (G.2.2.2.2.1 w)), (2, .int behind), (3, .int ix), (4, .int a), (6, .int (nI j))] d_Tape_indexOfItem_82 (by decide) rfl ?_
                  refine j_iinc hx [(4, .int (a + 1)), (5, .int 0), (7, .int (zch w (nI j))), (0, .ref (G.1 1)), (1, .ref (G.2.2.2.2.1 w)), (2, .int behind), (3, .int ix), (6, .int (nI j))] d_Tape_indexOfItem_84 6 rfl rfl (by decide) rfl ?_
                  refine j_goto (tgt := 115) hx d_Tape_indexOfItem_87 (by decide) ?_
                  refine j_iinc hx [(6, .int ((nI j) + 1)), (4, .int (a + 1)), (5, .int 0), (7, .int (zch w (nI j))), (0, .ref (G.1 1)), (1, .ref (G.2.2.2.2.1 w)), (2, .int behind), (3, .int ix)] d_Tape_indexOfItem_115 7 rfl rfl (by decide) rfl ?_
                  refine j_goto (tgt := 14) hx d_Tape_indexOfItem_118 (by decide) ?_
                  refine J.lsub (ls' := [(0, .ref (G.1 1)), (1, .ref (G.2.2.2.2.1 w)), (2, .int behind), (3, .int ix), (4, .int (a + 1)), (5, .int 0), (6, .int ((nI j) + 1))]) [4, 5, 6, 7, 1, 2, 0] rfl ?_
                  refine J.to ?_ ?_ (ih14 _ ?_ (j + 1) ix (a + 1) 0 (by omega) (by rw [← hz, hd]; simp only [ixF]; first | (simp [zc20, zc29, zc49, zc54, zc60, zc74]; done) | (rw [if_neg zc49]; first | exact (congrArg (ixF (σ 3) (σ 1 4) behind (List.drop (j + 1) (zL w)) ix (a + 1)) (if_pos (c := ¬ sm = 0 ∧ a < behind ∧ rg (σ 3) 600 a = zch w (nI j)) ⟨zc54, i_nle zc60, zc74⟩)).symm | exact (congrArg (ixF (σ 3) (σ 1 4) behind (List.drop (j + 1) (zL w)) ix (a + 1)) (if_neg (c := ¬ sm = 0 ∧ a < behind ∧ rg (σ 3) 600 a = zch w (nI j)) (fun z => zc74 z.2.2))).symm | exact (congrArg (ixF (σ 3) (σ 1 4) behind (List.drop (j + 1) (zL w)) ix (a + 1)) (if_neg (c := ¬ sm = 0 ∧ a < behind ∧ rg (σ 3) 600 a = zch w (nI j)) (fun z => i_lelt zc60 z.2.1))).symm | (exact (congrArg (ixF (σ 3) (σ 1 4) behind (List.drop (j + 1) (zL w)) ix (a + 1)) (if_neg (c := ¬ sm = 0 ∧ a < behind ∧ rg (σ 3) 600 a = zch w (nI j)) (fun z => i_lelt zc60 z.2.1))).symm))) rfl)
                  · first | (first | rfl | (simp [zc20, zc29, zc49, zc54, zc60, zc74]; done)) | fail
                  · first | (simp only [nI_s]) | fail
                  · first | (omega) | fail
                · skip
                  refine j_iconst (v := 1) hx d_Tape_indexOfItem_77 (by decide) ?_
                  refine j_goto (tgt := 82) hx d_Tape_indexOfItem_78 (by decide) ?_
                  refine j_istore hx [(5, .int 1), (7, .int (zch w (nI j))), (0, .ref (G.1 1)), (1, .ref (G.2.2.2.2.1 w)), (2, .int behind), (3, .int ix), (4, .int a), (6, .int (nI j))] d_Tape_indexOfItem_82 (by decide) rfl ?_
                  refine j_iinc hx [(4, .int (a + 1)), (5, .int 1), (7, .int (zch w (nI j))), (0, .ref (G.1 1)), (1, .ref (G.2.2.2.2.1 w)), (2, .int behind), (3, .int ix), (6, .int (nI j))] d_Tape_indexOfItem_84 6 rfl rfl (by decide) rfl ?_
                  refine j_goto (tgt := 115) hx d_Tape_indexOfItem_87 (by decide) ?_
                  refine j_iinc hx [(6, .int ((nI j) + 1)), (4, .int (a + 1)), (5, .int 1), (7, .int (zch w (nI j))), (0, .ref (G.1 1)), (1, .ref (G.2.2.2.2.1 w)), (2, .int behind), (3, .int ix)] d_Tape_indexOfItem_115 7 rfl rfl (by decide) rfl ?_
                  refine j_goto (tgt := 14) hx d_Tape_indexOfItem_118 (by decide) ?_
                  refine J.lsub (ls' := [(0, .ref (G.1 1)), (1, .ref (G.2.2.2.2.1 w)), (2, .int behind), (3, .int ix), (4, .int (a + 1)), (5, .int 1), (6, .int ((nI j) + 1))]) [4, 5, 6, 7, 1, 2, 0] rfl ?_
                  refine J.to ?_ ?_ (ih14 _ ?_ (j + 1) ix (a + 1) 1 (by omega) (by rw [← hz, hd]; simp only [ixF]; first | (simp [zc20, zc29, zc49, zc54, zc60, zc74]; done) | (rw [if_neg zc49]; first | exact (congrArg (ixF (σ 3) (σ 1 4) behind (List.drop (j + 1) (zL w)) ix (a + 1)) (if_pos (c := ¬ sm = 0 ∧ a < behind ∧ rg (σ 3) 600 a = zch w (nI j)) ⟨zc54, i_nle zc60, zc74⟩)).symm | exact (congrArg (ixF (σ 3) (σ 1 4) behind (List.drop (j + 1) (zL w)) ix (a + 1)) (if_neg (c := ¬ sm = 0 ∧ a < behind ∧ rg (σ 3) 600 a = zch w (nI j)) (fun z => zc74 z.2.2))).symm | exact (congrArg (ixF (σ 3) (σ 1 4) behind (List.drop (j + 1) (zL w)) ix (a + 1)) (if_neg (c := ¬ sm = 0 ∧ a < behind ∧ rg (σ 3) 600 a = zch w (nI j)) (fun z => i_lelt zc60 z.2.1))).symm | (exact (congrArg (ixF (σ 3) (σ 1 4) behind (List.drop (j + 1) (zL w)) ix (a + 1)) (if_neg (c := ¬ sm = 0 ∧ a < behind ∧ rg (σ 3) 600 a = zch w (nI j)) (fun z => i_lelt zc60 z.2.1))).symm))) rfl)
                  · first | (first | rfl | (simp [zc20, zc29, zc49, zc54, zc60, zc74]; done)) | fail
                  · first | (simp only [nI_s]) | fail
                  · first | (omega) | fail
  refine J.lsub (ls' := [(0, .ref (G.1 1)), (1, .ref (G.2.2.2.2.1 w)), (2, .int behind), (3, .int 0), (4, .int (σ 1 4)), (5, .int 1), (6, .int 0)]) [4, 5, 6, 3, 2, 1, 0] rfl ?_
  refine J.to ?_ ?_ (hl14 _ 0 0 (σ 1 4) 1 (Nat.zero_le _) rfl rfl)
  · first | (first | rfl | (simp []; done)) | fail
  · first | (first | rfl | (simp only [nI_s]; done) | (simp only [nI_s, it_s]; done) | (simp [nI_s, it_s, ]; done)) | fail

set_option maxRecDepth 20000 in
set_option maxHeartbeats 4000000 in
theorem c_Tape_wordOf {l : Launch} {G : Gz} (hG : zI G) (σ : St) (w : Nat) (hw : w < 5) : MI l G y_Tape_wordOf prog_10_method_17_code 4 .int 6 [.ref (G.1 1), .ref (G.2.2.2.2.1 w)] σ (woI σ w) (woS σ w) := by
  refine MI.of hG (by decide) (Nat.le_of_ble_eq_true rfl) (fun X hx hq => ?_)
  show J l G X 4 σ 0 [(0, .ref (G.1 1)), (1, .ref (G.2.2.2.2.1 w))] []
  refine j_aload_n hx d_Tape_wordOf_0 rfl 0 rfl ?_
  refine j_aload_n hx d_Tape_wordOf_1 rfl 0 rfl ?_
  refine j_get hx ck_Tape 3 (by decide) t_55 (by decide) (sh_1 _ _) rfl d_Tape_wordOf_2 ?_
  refine j_put hx ck_Tape 4 (by decide) t_56 (by decide) (sh_1 _ _) rfl (Nat.le_of_ble_eq_true rfl) (sh_1 _ _) d_Tape_wordOf_5 ?_
  obtain ⟨s9_1, eg_1⟩ : ∃ z : St, z = wo1 σ := ⟨_, rfl⟩
  refine J.to (σ' := s9_1) (by rw [eg_1]; first | done | rfl) rfl ?_
  refine j_aload_n hx d_Tape_wordOf_8 rfl 0 rfl ?_
  refine j_get hx ck_Tape 3 (by decide) t_55 (by decide) (sh_1 _ _) rfl d_Tape_wordOf_9 ?_
  refine j_istore_n hx [(2, .int (s9_1 1 3)), (0, .ref (G.1 1)), (1, .ref (G.2.2.2.2.1 w))] d_Tape_wordOf_12 rfl (by decide) rfl ?_
  have hl13 : ∀ (N9 : Nat) (p : Int32), (rn (s9_1 1 2) (isA (s9_1 3)) p = rn (s9_1 1 2) (isA (s9_1 3)) (s9_1 1 3)) → ((s9_1 1 2).toInt - p.toInt).toNat = N9 → J l G X 4 s9_1 13 [(0, .ref (G.1 1)), (1, .ref (G.2.2.2.2.1 w)), (2, .int p)] [] := by
    intro N9
    induction N9 using Nat.strongRecOn with
    | _ N9 ih13 =>
      intro p hp hm13
      refine j_iload_n hx d_Tape_wordOf_13 rfl 2 rfl ?_
      refine j_aload_n hx d_Tape_wordOf_14 rfl 0 rfl ?_
      refine j_get hx ck_Tape 2 (by decide) t_54 (by decide) (sh_1 _ _) rfl d_Tape_wordOf_15 ?_
      refine j_icmp_ge (tgt := 53) hx d_Tape_wordOf_18 (by decide) (fun zc18 => ?_) (fun zc18 => ?_)
      · skip
        have ep := (rn_stop (len := s9_1 1 2) (P := isA (s9_1 3)) (p := p) (ns_len zc18)).symm.trans hp
        subst ep
        refine j_aload_n hx d_Tape_wordOf_53 rfl 0 rfl ?_
        refine j_aload_n hx d_Tape_wordOf_54 rfl 1 rfl ?_
        refine j_iload_n hx d_Tape_wordOf_55 rfl 2 rfl ?_
        refine j_callVi hx (c_Tape_indexOfItem hG s9_1 w ((rn (s9_1 1 2) (isA (s9_1 3)) (s9_1 1 3))) (by first | assumption | omega)) mo_Tape_indexOfItem mv_Tape_indexOfItem t_663 (by decide) rfl (by decide) (sh_1 _ _) rfl rfl (Nat.le_of_ble_eq_true rfl) d_Tape_wordOf_56 ?_
        refine j_istore_n hx [(3, .int (wix s9_1 w ((rn (s9_1 1 2) (isA (s9_1 3)) (s9_1 1 3))))), (0, .ref (G.1 1)), (1, .ref (G.2.2.2.2.1 w)), (2, .int ((rn (s9_1 1 2) (isA (s9_1 3)) (s9_1 1 3))))] d_Tape_wordOf_59 rfl (by decide) rfl ?_
        refine j_aload_n hx d_Tape_wordOf_60 rfl 1 rfl ?_
        refine j_iload_n hx d_Tape_wordOf_61 rfl 3 rfl ?_
        refine j_callVv hx (c_Tape_moveTo hG s9_1 ((rn (s9_1 1 2) (isA (s9_1 3)) (s9_1 1 3)))) mo_Tape_moveTo mv_Tape_moveTo t_637 (by decide) rfl (by decide) (sh_1 _ _) rfl rfl (Nat.le_of_ble_eq_true rfl) d_Tape_wordOf_62 ?_
        refine j_iload_n hx d_Tape_wordOf_65 rfl 0 rfl ?_
        refine j_iconst (v := (-1)) hx d_Tape_wordOf_66 (by decide) ?_
        refine j_icmp_ne (tgt := 75) hx d_Tape_wordOf_67 (by decide) (fun zc67 => ?_) (fun zc67 => ?_)
        · skip
          refine j_iload_n hx d_Tape_wordOf_75 rfl 0 rfl ?_
          exact j_iret hx hq rfl d_Tape_wordOf_76 (by first | (rw [eg_1]; rfl) | fail) (by first | (rw [eg_1] at *; first | exact (if_pos zc67).symm | exact (if_neg zc67).symm) | fail)
        · skip
          refine j_aload_n hx d_Tape_wordOf_70 rfl 1 rfl ?_
          refine j_iconst (v := 1) hx d_Tape_wordOf_71 (by decide) ?_
          refine j_callVv hx (c_Tape_blameItem hG (mvt s9_1 ((rn (s9_1 1 2) (isA (s9_1 3)) (s9_1 1 3)))) 1) mo_Tape_blameItem mv_Tape_blameItem t_715 (by decide) rfl (by decide) (sh_1 _ _) rfl rfl (Nat.le_of_ble_eq_true rfl) d_Tape_wordOf_72 ?_
          refine j_iload_n hx d_Tape_wordOf_75 rfl 0 rfl ?_
          exact j_iret hx hq rfl d_Tape_wordOf_76 (by first | (rw [eg_1]; rfl) | fail) (by first | (rw [eg_1] at *; first | exact (if_pos zc67).symm | exact (if_neg zc67).symm) | fail)
      · skip
        refine j_aload_n hx d_Tape_wordOf_21 rfl 0 rfl ?_
        refine j_get hx ck_Tape 0 (by decide) t_52 (by decide) (sh_1 _ _) rfl d_Tape_wordOf_22 ?_
        refine j_iload_n hx d_Tape_wordOf_25 rfl 2 rfl ?_
        refine j_callVi hx (c_Row_getA hG ir_2 3 rfl s9_1 p) mo_Row_get mv_Row_get t_641 (by decide) rfl (by decide) (sh_2 _ _) rfl rfl (Nat.le_of_ble_eq_true rfl) d_Tape_wordOf_26 ?_
        refine j_bipush (v := 97) hx d_Tape_wordOf_29 (by decide) ?_
        refine j_icmp_lt (tgt := 53) hx d_Tape_wordOf_31 (by decide) (fun zc31 => ?_) (fun zc31 => ?_)
        · skip
          have ep := (rn_stop (len := s9_1 1 2) (P := isA (s9_1 3)) (p := p) (nsA1 zc31)).symm.trans hp
          subst ep
          refine j_aload_n hx d_Tape_wordOf_53 rfl 0 rfl ?_
          refine j_aload_n hx d_Tape_wordOf_54 rfl 1 rfl ?_
          refine j_iload_n hx d_Tape_wordOf_55 rfl 2 rfl ?_
          refine j_callVi hx (c_Tape_indexOfItem hG s9_1 w ((rn (s9_1 1 2) (isA (s9_1 3)) (s9_1 1 3))) (by first | assumption | omega)) mo_Tape_indexOfItem mv_Tape_indexOfItem t_663 (by decide) rfl (by decide) (sh_1 _ _) rfl rfl (Nat.le_of_ble_eq_true rfl) d_Tape_wordOf_56 ?_
          refine j_istore_n hx [(3, .int (wix s9_1 w ((rn (s9_1 1 2) (isA (s9_1 3)) (s9_1 1 3))))), (0, .ref (G.1 1)), (1, .ref (G.2.2.2.2.1 w)), (2, .int ((rn (s9_1 1 2) (isA (s9_1 3)) (s9_1 1 3))))] d_Tape_wordOf_59 rfl (by decide) rfl ?_
          refine j_aload_n hx d_Tape_wordOf_60 rfl 1 rfl ?_
          refine j_iload_n hx d_Tape_wordOf_61 rfl 3 rfl ?_
          refine j_callVv hx (c_Tape_moveTo hG s9_1 ((rn (s9_1 1 2) (isA (s9_1 3)) (s9_1 1 3)))) mo_Tape_moveTo mv_Tape_moveTo t_637 (by decide) rfl (by decide) (sh_1 _ _) rfl rfl (Nat.le_of_ble_eq_true rfl) d_Tape_wordOf_62 ?_
          refine j_iload_n hx d_Tape_wordOf_65 rfl 0 rfl ?_
          refine j_iconst (v := (-1)) hx d_Tape_wordOf_66 (by decide) ?_
          refine j_icmp_ne (tgt := 75) hx d_Tape_wordOf_67 (by decide) (fun zc67 => ?_) (fun zc67 => ?_)
          · skip
            refine j_iload_n hx d_Tape_wordOf_75 rfl 0 rfl ?_
            exact j_iret hx hq rfl d_Tape_wordOf_76 (by first | (rw [eg_1]; rfl) | fail) (by first | (rw [eg_1] at *; first | exact (if_pos zc67).symm | exact (if_neg zc67).symm) | fail)
          · skip
            refine j_aload_n hx d_Tape_wordOf_70 rfl 1 rfl ?_
            refine j_iconst (v := 1) hx d_Tape_wordOf_71 (by decide) ?_
            refine j_callVv hx (c_Tape_blameItem hG (mvt s9_1 ((rn (s9_1 1 2) (isA (s9_1 3)) (s9_1 1 3)))) 1) mo_Tape_blameItem mv_Tape_blameItem t_715 (by decide) rfl (by decide) (sh_1 _ _) rfl rfl (Nat.le_of_ble_eq_true rfl) d_Tape_wordOf_72 ?_
            refine j_iload_n hx d_Tape_wordOf_75 rfl 0 rfl ?_
            exact j_iret hx hq rfl d_Tape_wordOf_76 (by first | (rw [eg_1]; rfl) | fail) (by first | (rw [eg_1] at *; first | exact (if_pos zc67).symm | exact (if_neg zc67).symm) | fail)
        · skip
          refine j_aload_n hx d_Tape_wordOf_34 rfl 0 rfl ?_
          refine j_get hx ck_Tape 0 (by decide) t_52 (by decide) (sh_1 _ _) rfl d_Tape_wordOf_35 ?_
          refine j_iload_n hx d_Tape_wordOf_38 rfl 2 rfl ?_
          refine j_callVi hx (c_Row_getA hG ir_2 3 rfl s9_1 p) mo_Row_get mv_Row_get t_641 (by decide) rfl (by decide) (sh_2 _ _) rfl rfl (Nat.le_of_ble_eq_true rfl) d_Tape_wordOf_39 ?_
          refine j_bipush (v := 122) hx d_Tape_wordOf_42 (by decide) ?_
          refine j_icmp_gt (tgt := 53) hx d_Tape_wordOf_44 (by decide) (fun zc44 => ?_) (fun zc44 => ?_)
          · skip
            have ep := (rn_stop (len := s9_1 1 2) (P := isA (s9_1 3)) (p := p) (nsA2 zc44)).symm.trans hp
            subst ep
            refine j_aload_n hx d_Tape_wordOf_53 rfl 0 rfl ?_
            refine j_aload_n hx d_Tape_wordOf_54 rfl 1 rfl ?_
            refine j_iload_n hx d_Tape_wordOf_55 rfl 2 rfl ?_
            refine j_callVi hx (c_Tape_indexOfItem hG s9_1 w ((rn (s9_1 1 2) (isA (s9_1 3)) (s9_1 1 3))) (by first | assumption | omega)) mo_Tape_indexOfItem mv_Tape_indexOfItem t_663 (by decide) rfl (by decide) (sh_1 _ _) rfl rfl (Nat.le_of_ble_eq_true rfl) d_Tape_wordOf_56 ?_
            refine j_istore_n hx [(3, .int (wix s9_1 w ((rn (s9_1 1 2) (isA (s9_1 3)) (s9_1 1 3))))), (0, .ref (G.1 1)), (1, .ref (G.2.2.2.2.1 w)), (2, .int ((rn (s9_1 1 2) (isA (s9_1 3)) (s9_1 1 3))))] d_Tape_wordOf_59 rfl (by decide) rfl ?_
            refine j_aload_n hx d_Tape_wordOf_60 rfl 1 rfl ?_
            refine j_iload_n hx d_Tape_wordOf_61 rfl 3 rfl ?_
            refine j_callVv hx (c_Tape_moveTo hG s9_1 ((rn (s9_1 1 2) (isA (s9_1 3)) (s9_1 1 3)))) mo_Tape_moveTo mv_Tape_moveTo t_637 (by decide) rfl (by decide) (sh_1 _ _) rfl rfl (Nat.le_of_ble_eq_true rfl) d_Tape_wordOf_62 ?_
            refine j_iload_n hx d_Tape_wordOf_65 rfl 0 rfl ?_
            refine j_iconst (v := (-1)) hx d_Tape_wordOf_66 (by decide) ?_
            refine j_icmp_ne (tgt := 75) hx d_Tape_wordOf_67 (by decide) (fun zc67 => ?_) (fun zc67 => ?_)
            · skip
              refine j_iload_n hx d_Tape_wordOf_75 rfl 0 rfl ?_
              exact j_iret hx hq rfl d_Tape_wordOf_76 (by first | (rw [eg_1]; rfl) | fail) (by first | (rw [eg_1] at *; first | exact (if_pos zc67).symm | exact (if_neg zc67).symm) | fail)
            · skip
              refine j_aload_n hx d_Tape_wordOf_70 rfl 1 rfl ?_
              refine j_iconst (v := 1) hx d_Tape_wordOf_71 (by decide) ?_
              refine j_callVv hx (c_Tape_blameItem hG (mvt s9_1 ((rn (s9_1 1 2) (isA (s9_1 3)) (s9_1 1 3)))) 1) mo_Tape_blameItem mv_Tape_blameItem t_715 (by decide) rfl (by decide) (sh_1 _ _) rfl rfl (Nat.le_of_ble_eq_true rfl) d_Tape_wordOf_72 ?_
              refine j_iload_n hx d_Tape_wordOf_75 rfl 0 rfl ?_
              exact j_iret hx hq rfl d_Tape_wordOf_76 (by first | (rw [eg_1]; rfl) | fail) (by first | (rw [eg_1] at *; first | exact (if_pos zc67).symm | exact (if_neg zc67).symm) | fail)
          · skip
            refine j_iinc hx [(2, .int (p + 1)), (0, .ref (G.1 1)), (1, .ref (G.2.2.2.2.1 w))] d_Tape_wordOf_47 2 rfl rfl (by decide) rfl ?_
            refine j_goto (tgt := 13) hx d_Tape_wordOf_50 (by decide) ?_
            refine J.lsub (ls' := [(0, .ref (G.1 1)), (1, .ref (G.2.2.2.2.1 w)), (2, .int (p + 1))]) [1, 2, 0] rfl ?_
            refine J.to ?_ ?_ (ih13 _ ?_ (p + 1) (hp ▸ (rn_go (i_nle zc18) (isA_t zc31 zc44)).symm) rfl)
            · first | (rfl) | fail
            · first | (rfl) | fail
            · first | (exact rn_dec (i_nle zc18) hm13) | fail
  refine J.lsub (ls' := [(0, .ref (G.1 1)), (1, .ref (G.2.2.2.2.1 w)), (2, .int (s9_1 1 3))]) [1, 2, 0] rfl ?_
  refine J.to ?_ ?_ (hl13 _ (s9_1 1 3) rfl rfl)
  · first | (rfl) | fail
  · first | (rfl) | fail

