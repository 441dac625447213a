/-! ===== the class's faces that were wanting ===== -/
theorem gcl_s {i : Nat} {u v x y : Int64} (h : i < 100) (hv : ¬ v = 0) (hg : gcl (100 - i) u v = gcl 100 x y) : gcl (100 - (i + 1)) v (u - u / v * v) = gcl 100 x y := by
  rw [← hg, show 100 - i = (100 - (i + 1)) + 1 by omega, gcl, if_neg hv]
theorem gcl_z {i : Nat} {u v x y : Int64} (h : i < 100) (hv : v = 0) (hg : gcl (100 - i) u v = gcl 100 x y) : u = gcl 100 x y := by
  rw [← hg, show 100 - i = (100 - (i + 1)) + 1 by omega, gcl, if_pos hv]
theorem gcl_9 {u v x y : Int64} (hg : gcl (100 - 100) u v = gcl 100 x y) : u = gcl 100 x y := hg
def xdr (σ : St) (c : Int32) (n : Nat) : Int32 := bt (fun s => stk σ (nI s) c) n
abbrev xaA (σ : St) (d j : Int32) (m : Nat) : Prop := fIn (nI m) (rg (σ 16) 3 d) ∧ fIn (nI m) (rg (σ 12) 6 j)
def xbr (σ : St) (n : Nat) : Int32 × Int32 := it (fun i a => if a.2 < fsn σ (nI i) (nI i) then (nI i, fsn σ (nI i) (nI i)) else a) (-1, -1) n
theorem xbr_1 {σ : St} {i : Nat} (h : (xbr σ i).2 < fsn σ (nI i) (nI i)) : xbr σ (i + 1) = (nI i, fsn σ (nI i) (nI i)) := if_pos h
theorem xbr_2 {σ : St} {i : Nat} (h : ¬ (xbr σ i).2 < fsn σ (nI i) (nI i)) : xbr σ (i + 1) = xbr σ i := if_neg h
def xps (σ : St) (s : Int32) : Int32 × St := psk (pbS σ 81) s
def xtr (σ : St) (s w : Int32) : Int32 := if w = 0 then (xps σ s).1 else if w = 1 then (scl (xps σ s).2 s (cl (lmi (xps σ s).2 (xps σ s).1))).2 else if w = 2 then alv (xps σ s).2 s (xps σ s).1 else if w = 3 then pcg (xps σ s).2 s (xps σ s).1 else sm (fun m => rg ((xps σ s).2 86) 12 (nI m)) (cl (lmi (xps σ s).2 (xps σ s).1))
def xtS (σ : St) (s w : Int32) : St := if w = 1 then (scl (xps σ s).2 s (cl (lmi (xps σ s).2 (xps σ s).1))).1 else (xps σ s).2
def xwB (ships w : Int32) (i : Nat) (a : Int32 × St) : Int32 × St := if hB ships (nI i) then (if (psk a.2 (nI i)).1 = -1 then (a.1, (psk a.2 (nI i)).2) else (a.1 + wkn (psk a.2 (nI i)).2 (nI i) (psk a.2 (nI i)).1 w, (psk a.2 (nI i)).2)) else a
def xwr (σ : St) (ships w : Int32) (n : Nat) : Int32 × St := it (xwB ships w) (0, pbS σ 81) n
theorem xwr_s {σ : St} {ships w : Int32} {i : Nat} : xwr σ ships w (i + 1) = xwB ships w i (xwr σ ships w i) := rfl
theorem xwB_0 {ships w : Int32} {i : Nat} {a : Int32 × St} (h : ¬ hB ships (nI i)) : xwB ships w i a = a := if_neg h
theorem xwB_1 {ships w : Int32} {i : Nat} {a : Int32 × St} (h : hB ships (nI i)) (h2 : (psk a.2 (nI i)).1 = -1) : xwB ships w i a = (a.1, (psk a.2 (nI i)).2) := by unfold xwB; rw [if_pos h, if_pos h2]
theorem xwB_2 {ships w : Int32} {i : Nat} {a : Int32 × St} (h : hB ships (nI i)) (h2 : ¬ (psk a.2 (nI i)).1 = -1) : xwB ships w i a = (a.1 + wkn (psk a.2 (nI i)).2 (nI i) (psk a.2 (nI i)).1 w, (psk a.2 (nI i)).2) := by unfold xwB; rw [if_pos h, if_neg h2]
def xwn (σ : St) (seed n q : Int32) : St := wlv (wbS σ 81 seed) (wsh (wbS σ 81 seed)) q (ct n)
def xspB (seed n q : Int32) (i : Nat) (a : (Int32 × Int32 × Int32) × St) : (Int32 × Int32 × Int32) × St := ((if rg (xwn a.2 (seed + nI i) n q 101) 29 3 < a.1.1 then rg (xwn a.2 (seed + nI i) n q 101) 29 3 else a.1.1, if a.1.2.1 < rg (xwn a.2 (seed + nI i) n q 101) 29 3 then rg (xwn a.2 (seed + nI i) n q 101) 29 3 else a.1.2.1, a.1.2.2 + (if rg (xwn a.2 (seed + nI i) n q 101) 29 2 = 0 then 1 else 0)), xwn a.2 (seed + nI i) n q)
def xsp (σ : St) (seed n q : Int32) (k : Nat) : (Int32 × Int32 × Int32) × St := it (xspB seed n q) ((3840, 0, 0), σ) k
theorem xsp_s {σ s : St} {seed n q : Int32} {i : Nat} (hs : s = xwn (xsp σ seed n q i).2 (seed + nI i) n q) : xsp σ seed n q (i + 1) = ((if rg (s 101) 29 3 < (xsp σ seed n q i).1.1 then rg (s 101) 29 3 else (xsp σ seed n q i).1.1, if (xsp σ seed n q i).1.2.1 < rg (s 101) 29 3 then rg (s 101) 29 3 else (xsp σ seed n q i).1.2.1, (xsp σ seed n q i).1.2.2 + (if rg (s 101) 29 2 = 0 then 1 else 0)), s) := by subst hs; rfl
theorem xwr_6 {σ : St} {ships w : Int32} {i : Nat} : (xwr σ ships w i).2 6 = σ 6 := by
  induction i with
  | zero => exact pbS_o (by decide) (by decide) (by decide) (by decide) (by decide)
  | succ i ih =>
    rw [xwr_s]
    by_cases h : hB ships (nI i)
    · by_cases h2 : (psk (xwr σ ships w i).2 (nI i)).1 = -1
      · rw [xwB_1 h h2]; exact (psk_o (by decide) (by decide) (by decide) (by decide)).trans ih
      · rw [xwB_2 h h2]; exact (psk_o (by decide) (by decide) (by decide) (by decide)).trans ih
    · rw [xwB_0 h]; exact ih
def xkU (a p l n : Int32) : Int64 := a.toInt64 * pwr p (ct l) * pwr (16 - p) (ct (n - l))
def xkL (a p q l n : Int32) : Int64 := xkU a p l n + (16 - a).toInt64 * pwr q (ct l) * pwr (16 - q) (ct (n - l))
def xwi (a p q l n part : Int32) : Int64 := if xkU a p l n = 0 then part.toInt64 else if gcl 100 (xkL a p q l n) (xkU a p l n) = 0 then part.toInt64 else if part = 0 then xkU a p l n / gcl 100 (xkL a p q l n) (xkU a p l n) else xkL a p q l n / gcl 100 (xkL a p q l n) (xkU a p l n)

set_option maxRecDepth 20000 in
set_option maxHeartbeats 600000 in
theorem c_DL_commonDivisor {l : Launch} {G : Gz} (hG : zI G) (σ : St) (x : Int64) (y : Int64) : ML l G y_DL_commonDivisor prog_1_method_48_code 7 .long 1 [.long (x), .long (y)] σ (gcl 100 x y) σ := by
  refine ML.of hG (by decide) (Nat.le_of_ble_eq_true rfl) (fun X hx hq => ?_)
  show J l G X 7 σ 0 [(0, .long (x)), (2, .long (y))] []
  refine j_iconst (v := 0) hx d_DL_commonDivisor_0 (by decide) ?_
  refine j_istore hx [(4, .int 0), (0, .long (x)), (2, .long (y))] d_DL_commonDivisor_1 (by decide) rfl ?_
  have hl3 : ∀ (N9 : Nat) (i : Nat) (u v : Int64), (i ≤ 100) → (gcl (100 - i) u v = gcl 100 x y) → 100 - i = N9 → J l G X 7 σ 3 [(0, .long (u)), (2, .long (v)), (4, .int (nI i))] [] := by
    intro N9
    induction N9 using Nat.strongRecOn with
    | _ N9 ih3 =>
      intro i u v hi_i hg9 hm3
      refine j_iload hx d_DL_commonDivisor_3 2 rfl ?_
      refine j_bipush (v := 100) hx d_DL_commonDivisor_5 (by decide) ?_
      refine j_icmp_ge (tgt := 32) hx d_DL_commonDivisor_7 (by decide) (fun zc7 => ?_) (fun zc7 => ?_)
      · skip
        obtain rfl := nt_end (n := 100) hi_i (by decide) zc7
        refine j_lload_n hx d_DL_commonDivisor_32 rfl 0 rfl ?_
        exact j_lret hx hq d_DL_commonDivisor_33 (by first | (first | exact gcl_9 hg9 | exact gcl_z hlt3 ((lg_cmp_eq _ _).mp zc13) hg9) | fail) (by first | (first | rfl | (simp only [zc7]; done) | (simp [zc7]; done)) | fail)
      · skip
        have hlt3 := nt_go (n := 100) hi_i (by decide) zc7
        refine j_lload_n hx d_DL_commonDivisor_10 rfl 1 rfl ?_
        refine j_lconst (v := 0) hx d_DL_commonDivisor_11 (by decide) ?_
        refine j_lcmp hx d_DL_commonDivisor_12 ?_
        refine j_if_eq (tgt := 32) hx d_DL_commonDivisor_13 (by decide) (fun zc13 => ?_) (fun zc13 => ?_)
        · skip
          refine j_lload_n hx d_DL_commonDivisor_32 rfl 0 rfl ?_
          exact j_lret hx hq d_DL_commonDivisor_33 (by first | (first | exact gcl_9 hg9 | exact gcl_z hlt3 ((lg_cmp_eq _ _).mp zc13) hg9) | fail) (by first | (first | rfl | (simp only [zc7, zc13]; done) | (simp [zc7, zc13]; done)) | fail)
        · skip
          refine j_lload_n hx d_DL_commonDivisor_16 rfl 0 rfl ?_
          refine j_lload_n hx d_DL_commonDivisor_17 rfl 1 rfl ?_
          refine j_lrem hx d_DL_commonDivisor_18 (by exact fun z => zc13 ((lg_cmp_eq _ _).mpr z)) ?_
          refine j_lstore hx [(5, .long (u - u / v * v)), (0, .long (u)), (2, .long (v)), (4, .int (nI i))] d_DL_commonDivisor_19 (by decide) rfl ?_
          refine j_lload_n hx d_DL_commonDivisor_21 rfl 2 rfl ?_
          refine j_lstore_n hx [(0, .long (v)), (5, .long (u - u / v * v)), (2, .long (v)), (4, .int (nI i))] d_DL_commonDivisor_22 rfl (by decide) rfl ?_
          refine j_lload hx d_DL_commonDivisor_23 1 rfl ?_
          refine j_lstore_n hx [(2, .long (u - u / v * v)), (0, .long (v)), (5, .long (u - u / v * v)), (4, .int (nI i))] d_DL_commonDivisor_25 rfl (by decide) rfl ?_
          refine j_iinc hx [(4, .int ((nI i) + 1)), (2, .long (u - u / v * v)), (0, .long (v)), (5, .long (u - u / v * v))] d_DL_commonDivisor_26 3 rfl rfl (by decide) rfl ?_
          refine j_goto (tgt := 3) hx d_DL_commonDivisor_29 (by decide) ?_
          refine J.lsub (ls' := [(0, .long (v)), (2, .long (u - u / v * v)), (4, .int ((nI i) + 1))]) [2, 1, 0] rfl ?_
          refine J.to ?_ ?_ (ih3 _ ?_ (i + 1) v (u - u / v * v) hlt3 (gcl_s hlt3 (fun z => zc13 ((lg_cmp_eq _ _).mpr z)) hg9) rfl)
          · first | (rfl) | fail
          · first | (simp only [nI_s]) | fail
          · first | (omega) | fail
  refine J.lsub (ls' := [(0, .long (x)), (2, .long (y)), (4, .int 0)]) [1, 2, 0] rfl ?_
  refine J.to ?_ ?_ (hl3 _ 0 x y (Nat.zero_le _) rfl rfl)
  · first | (rfl) | fail
  · first | (rfl) | fail

set_option maxRecDepth 20000 in
set_option maxHeartbeats 600000 in
theorem c_DL_drawn {l : Launch} {G : Gz} (hG : zI G) (σ : St) (c : Int32) (a0 : ¬ c < 0) (bb0 : c < rg (σ 6) 6 0) : MI l G y_DL_drawn prog_1_method_27_code 4 .int 5 [.ref (G.1 0), .int c] σ (xdr σ c (ct (cM σ 3))) σ := by
  refine MI.of hG (by decide) (Nat.le_of_ble_eq_true rfl) (fun X hx hq => ?_)
  show J l G X 4 σ 0 [(0, .ref (G.1 0)), (1, .int c)] []
  refine j_aload_n hx d_DL_drawn_0 rfl 0 rfl ?_
  refine j_iconst (v := 0) hx d_DL_drawn_1 (by decide) ?_
  refine j_iload_n hx d_DL_drawn_2 rfl 1 rfl ?_
  refine j_callVv hx (c_DL_needThere hG σ 0 c (by exact a0) (by exact bb0)) mo_DL_needThere mv_DL_needThere t_984 (by decide) rfl (by decide) (sh_0 _ _) rfl rfl (Nat.le_of_ble_eq_true rfl) d_DL_drawn_3 ?_
  refine j_iconst (v := 0) hx d_DL_drawn_6 (by decide) ?_
  refine j_istore_n hx [(2, .int 0), (0, .ref (G.1 0)), (1, .int c)] d_DL_drawn_7 rfl (by decide) rfl ?_
  refine j_iconst (v := 0) hx d_DL_drawn_8 (by decide) ?_
  refine j_istore_n hx [(3, .int 0), (2, .int 0), (0, .ref (G.1 0)), (1, .int c)] d_DL_drawn_9 rfl (by decide) rfl ?_
  have hl10 : ∀ (N9 : Nat) (i : Nat), (i ≤ (ct (cM σ 3))) → (ct (cM σ 3)) - i = N9 → J l G X 4 σ 10 [(0, .ref (G.1 0)), (1, .int c), (2, .int (xdr σ c i)), (3, .int (nI i))] [] := by
    intro N9
    induction N9 using Nat.strongRecOn with
    | _ N9 ih10 =>
      intro i hi_i hm10
      refine j_iload_n hx d_DL_drawn_10 rfl 3 rfl ?_
      refine j_aload_n hx d_DL_drawn_11 rfl 0 rfl ?_
      refine j_get hx ck_DL 1 (by decide) t_327 (by decide) (sh_0 _ _) rfl d_DL_drawn_12 ?_
      refine j_get hx ck_Coast 0 (by decide) t_85 (by decide) (sh_4 _ _) rfl d_DL_drawn_15 ?_
      refine j_iconst (v := 3) hx d_DL_drawn_18 (by decide) ?_
      refine j_callVi hx (c_Row_getA hG ir_5 6 rfl σ 3) mo_Row_get mv_Row_get t_475 (by decide) rfl (by decide) (sh_5 _ _) rfl rfl (Nat.le_of_ble_eq_true rfl) d_DL_drawn_19 ?_
      refine j_icmp_ge (tgt := 49) hx d_DL_drawn_22 (by decide) (fun zc22 => ?_) (fun zc22 => ?_)
      · skip
        obtain rfl := ct_end' hi_i zc22
        refine j_iload_n hx d_DL_drawn_49 rfl 2 rfl ?_
        exact j_iret hx hq rfl d_DL_drawn_50 (by first | (rfl) | fail) (by first | (first | rfl | (simp only [zc22]; done) | (simp [zc22]; done)) | fail)
      · skip
        have hlt10 := ct_go hi_i zc22
        refine j_aload_n hx d_DL_drawn_25 rfl 0 rfl ?_
        refine j_get hx ck_DL 1 (by decide) t_327 (by decide) (sh_0 _ _) rfl d_DL_drawn_26 ?_
        refine j_iload_n hx d_DL_drawn_29 rfl 3 rfl ?_
        refine j_iload_n hx d_DL_drawn_30 rfl 1 rfl ?_
        refine j_callVi hx (c_Coast_strikes hG σ (nI i) c) mo_Coast_strikes mv_Coast_strikes t_1277 (by decide) rfl (by decide) (sh_4 _ _) rfl rfl (Nat.le_of_ble_eq_true rfl) d_DL_drawn_31 ?_
        refine j_if_eq (tgt := 43) hx d_DL_drawn_34 (by decide) (fun zc34 => ?_) (fun zc34 => ?_)
        · skip
          refine j_iinc hx [(3, .int ((nI i) + 1)), (0, .ref (G.1 0)), (1, .int c), (2, .int (xdr σ c i))] d_DL_drawn_43 3 rfl rfl (by decide) rfl ?_
          refine j_goto (tgt := 10) hx d_DL_drawn_46 (by decide) ?_
          refine J.lsub (ls' := [(0, .ref (G.1 0)), (1, .int c), (2, .int (xdr σ c i)), (3, .int ((nI i) + 1))]) [1, 2, 3, 0] rfl ?_
          refine J.to ?_ ?_ (ih10 _ ?_ (i + 1) hlt10 rfl)
          · first | (first | rfl | (simp [zc22, zc34]; done)) | fail
          · first | (simp only [nI_s, xdr, bt_s]; first | (rw [if_pos (show stk σ (nI i) c from b2_nz zc34)]; done) | (rw [if_neg (show ¬ stk σ (nI i) c from b2_z zc34), Int32.or_zero]; done)) | fail
          · first | (omega) | fail
        · skip
          refine j_iload_n hx d_DL_drawn_37 rfl 2 rfl ?_
          refine j_iconst (v := 1) hx d_DL_drawn_38 (by decide) ?_
          refine j_iload_n hx d_DL_drawn_39 rfl 3 rfl ?_
          refine j_ishl hx d_DL_drawn_40 ?_
          refine j_ior hx d_DL_drawn_41 ?_
          refine j_istore_n hx [(2, .int ((xdr σ c i) ||| (1 <<< ((nI i) &&& 31)))), (0, .ref (G.1 0)), (1, .int c), (3, .int (nI i))] d_DL_drawn_42 rfl (by decide) rfl ?_
          refine j_iinc hx [(3, .int ((nI i) + 1)), (2, .int ((xdr σ c i) ||| (1 <<< ((nI i) &&& 31)))), (0, .ref (G.1 0)), (1, .int c)] d_DL_drawn_43 3 rfl rfl (by decide) rfl ?_
          refine j_goto (tgt := 10) hx d_DL_drawn_46 (by decide) ?_
          refine J.lsub (ls' := [(0, .ref (G.1 0)), (1, .int c), (2, .int ((xdr σ c i) ||| (1 <<< ((nI i) &&& 31)))), (3, .int ((nI i) + 1))]) [2, 3, 1, 0] rfl ?_
          refine J.to ?_ ?_ (ih10 _ ?_ (i + 1) hlt10 rfl)
          · first | (first | rfl | (simp [zc22, zc34]; done)) | fail
          · first | (simp only [nI_s, xdr, bt_s]; first | (rw [if_pos (show stk σ (nI i) c from b2_nz zc34)]; done) | (rw [if_neg (show ¬ stk σ (nI i) c from b2_z zc34), Int32.or_zero]; done)) | fail
          · first | (omega) | fail
  refine J.lsub (ls' := [(0, .ref (G.1 0)), (1, .int c), (2, .int 0), (3, .int 0)]) [2, 3, 1, 0] rfl ?_
  refine J.to ?_ ?_ (hl10 _ 0 (Nat.zero_le _) rfl)
  · first | (first | rfl | (simp []; done)) | fail
  · first | (rfl) | fail

set_option maxRecDepth 20000 in
set_option maxHeartbeats 600000 in
theorem c_DL_alike {l : Launch} {G : Gz} (hG : zI G) (σ : St) (d : Int32) (j : Int32) (w : Int32) (a0 : ¬ d < 0) (bb0 : d < rg (σ 6) 6 2) (a1 : ¬ j < 0) (bb1 : j < rg (σ 6) 6 1) (a2 : ¬ w < 0) (bb2 : w ≤ 1) : MI l G y_DL_alike prog_1_method_29_code 8 .int 6 [.ref (G.1 0), .int d, .int j, .int w] σ (if w = 0 then bt (xaA σ d j) 30 else bt (fun m => ¬ b2 (fIn (nI m) (rg (σ 16) 3 d)) = b2 (fIn (nI m) (rg (σ 12) 6 j))) 30) σ := by
  refine MI.of hG (by decide) (Nat.le_of_ble_eq_true rfl) (fun X hx hq => ?_)
  show J l G X 8 σ 0 [(0, .ref (G.1 0)), (1, .int d), (2, .int j), (3, .int w)] []
  refine j_aload_n hx d_DL_alike_0 rfl 0 rfl ?_
  refine j_iconst (v := 2) hx d_DL_alike_1 (by decide) ?_
  refine j_iload_n hx d_DL_alike_2 rfl 1 rfl ?_
  refine j_callVv hx (c_DL_needThere hG σ 2 d (by exact a0) (by exact bb0)) mo_DL_needThere mv_DL_needThere t_984 (by decide) rfl (by decide) (sh_0 _ _) rfl rfl (Nat.le_of_ble_eq_true rfl) d_DL_alike_3 ?_
  refine j_aload_n hx d_DL_alike_6 rfl 0 rfl ?_
  refine j_iconst (v := 1) hx d_DL_alike_7 (by decide) ?_
  refine j_iload_n hx d_DL_alike_8 rfl 2 rfl ?_
  refine j_callVv hx (c_DL_needThere hG σ 1 j (by exact a1) (by exact bb1)) mo_DL_needThere mv_DL_needThere t_984 (by decide) rfl (by decide) (sh_0 _ _) rfl rfl (Nat.le_of_ble_eq_true rfl) d_DL_alike_9 ?_
  refine j_aload_n hx d_DL_alike_12 rfl 0 rfl ?_
  refine j_iload_n hx d_DL_alike_13 rfl 3 rfl ?_
  refine j_iconst (v := 0) hx d_DL_alike_14 (by decide) ?_
  refine j_iconst (v := 1) hx d_DL_alike_15 (by decide) ?_
  refine j_callVv hx (c_DL_needWithin hG σ w 0 1 (by exact a2) (by exact bb2)) mo_DL_needWithin mv_DL_needWithin t_562 (by decide) rfl (by decide) (sh_0 _ _) rfl rfl (Nat.le_of_ble_eq_true rfl) d_DL_alike_16 ?_
  refine j_iconst (v := 0) hx d_DL_alike_19 (by decide) ?_
  refine j_istore hx [(4, .int 0), (0, .ref (G.1 0)), (1, .int d), (2, .int j), (3, .int w)] d_DL_alike_20 (by decide) rfl ?_
  refine j_iconst (v := 0) hx d_DL_alike_22 (by decide) ?_
  refine j_istore hx [(5, .int 0), (4, .int 0), (0, .ref (G.1 0)), (1, .int d), (2, .int j), (3, .int w)] d_DL_alike_23 (by decide) rfl ?_
  have hl25 : ∀ (N9 : Nat) (i : Nat), (i ≤ 30) → 30 - i = N9 → J l G X 8 σ 25 [(0, .ref (G.1 0)), (1, .int d), (2, .int j), (3, .int w), (4, .int (if w = 0 then bt (xaA σ d j) i else bt (fun m => ¬ b2 (fIn (nI m) (rg (σ 16) 3 d)) = b2 (fIn (nI m) (rg (σ 12) 6 j))) i)), (5, .int (nI i))] [] := by
    intro N9
    induction N9 using Nat.strongRecOn with
    | _ N9 ih25 =>
      intro i hi_i hm25
      refine j_iload hx d_DL_alike_25 5 rfl ?_
      refine j_bipush (v := 30) hx d_DL_alike_27 (by decide) ?_
      refine j_icmp_ge (tgt := 107) hx d_DL_alike_29 (by decide) (fun zc29 => ?_) (fun zc29 => ?_)
      · skip
        obtain rfl := nt_end (n := 30) hi_i (by decide) zc29
        refine j_iload hx d_DL_alike_107 4 rfl ?_
        exact j_iret hx hq rfl d_DL_alike_109 (by first | (rfl) | fail) (by first | (first | rfl | (simp only [zc29]; done) | (simp [zc29]; done)) | fail)
      · skip
        have hlt25 := nt_go (n := 30) hi_i (by decide) zc29
        refine j_iload hx d_DL_alike_32 5 rfl ?_
        refine j_aload_n hx d_DL_alike_34 rfl 0 rfl ?_
        refine j_get hx ck_DL 1 (by decide) t_327 (by decide) (sh_0 _ _) rfl d_DL_alike_35 ?_
        refine j_get hx ck_Coast 5 (by decide) t_101 (by decide) (sh_4 _ _) rfl d_DL_alike_38 ?_
        refine j_iload_n hx d_DL_alike_41 rfl 1 rfl ?_
        refine j_callVi hx (c_Row_getA hG ir_15 16 rfl σ d) mo_Row_get mv_Row_get t_475 (by decide) rfl (by decide) (sh_15 _ _) rfl rfl (Nat.le_of_ble_eq_true rfl) d_DL_alike_42 ?_
        refine j_callSi hx (c_DL_flashesIn hG σ (nI i) (rg (σ (15 + 1)) 3 d)) mo_DL_flashesIn t_512 t_1293 (by decide) rfl rfl (Nat.le_of_ble_eq_true rfl) d_DL_alike_45 ?_
        refine j_istore hx [(6, .int (b2 (fIn (nI i) (rg (σ (15 + 1)) 3 d)))), (0, .ref (G.1 0)), (1, .int d), (2, .int j), (3, .int w), (4, .int (if w = 0 then bt (xaA σ d j) i else bt (fun m => ¬ b2 (fIn (nI m) (rg (σ 16) 3 d)) = b2 (fIn (nI m) (rg (σ 12) 6 j))) i)), (5, .int (nI i))] d_DL_alike_48 (by decide) rfl ?_
        refine j_iload hx d_DL_alike_50 6 rfl ?_
        refine j_aload_n hx d_DL_alike_52 rfl 1 rfl ?_
        refine j_get hx ck_DL 1 (by decide) t_327 (by decide) (sh_0 _ _) rfl d_DL_alike_53 ?_
        refine j_get hx ck_Coast 3 (by decide) t_95 (by decide) (sh_4 _ _) rfl d_DL_alike_56 ?_
        refine j_iload_n hx d_DL_alike_59 rfl 3 rfl ?_
        refine j_callVi hx (c_Row_getA hG ir_11 12 rfl σ j) mo_Row_get mv_Row_get t_475 (by decide) rfl (by decide) (sh_11 _ _) rfl rfl (Nat.le_of_ble_eq_true rfl) d_DL_alike_60 ?_
        refine j_callSi hx (c_DL_flashesIn hG σ (nI i) (rg (σ (11 + 1)) 6 j)) mo_DL_flashesIn t_512 t_1293 (by decide) rfl rfl (Nat.le_of_ble_eq_true rfl) d_DL_alike_63 ?_
        refine j_istore hx [(7, .int (b2 (fIn (nI i) (rg (σ (11 + 1)) 6 j)))), (6, .int (b2 (fIn (nI i) (rg (σ (15 + 1)) 3 d)))), (0, .ref (G.1 0)), (1, .int d), (2, .int j), (3, .int w), (4, .int (if w = 0 then bt (xaA σ d j) i else bt (fun m => ¬ b2 (fIn (nI m) (rg (σ 16) 3 d)) = b2 (fIn (nI m) (rg (σ 12) 6 j))) i)), (5, .int (nI i))] d_DL_alike_66 (by decide) rfl ?_
        refine j_iload_n hx d_DL_alike_68 rfl 5 rfl ?_
        refine j_if_ne (tgt := 85) hx d_DL_alike_69 (by decide) (fun zc69 => ?_) (fun zc69 => ?_)
        · skip
          refine j_iload hx d_DL_alike_85 1 rfl ?_
          refine j_iload hx d_DL_alike_87 0 rfl ?_
          refine j_icmp_eq (tgt := 101) hx d_DL_alike_89 (by decide) (fun zc89 => ?_) (fun zc89 => ?_)
          · skip
            refine j_iinc hx [(5, .int ((nI i) + 1)), (7, .int (b2 (fIn (nI i) (rg (σ (11 + 1)) 6 j)))), (6, .int (b2 (fIn (nI i) (rg (σ (15 + 1)) 3 d)))), (0, .ref (G.1 0)), (1, .int d), (2, .int j), (3, .int w), (4, .int (if w = 0 then bt (xaA σ d j) i else bt (fun m => ¬ b2 (fIn (nI m) (rg (σ 16) 3 d)) = b2 (fIn (nI m) (rg (σ 12) 6 j))) i))] d_DL_alike_101 7 rfl rfl (by decide) rfl ?_
            refine j_goto (tgt := 25) hx d_DL_alike_104 (by decide) ?_
            refine J.lsub (ls' := [(0, .ref (G.1 0)), (1, .int d), (2, .int j), (3, .int w), (4, .int (if w = 0 then bt (xaA σ d j) i else bt (fun m => ¬ b2 (fIn (nI m) (rg (σ 16) 3 d)) = b2 (fIn (nI m) (rg (σ 12) 6 j))) i)), (5, .int ((nI i) + 1))]) [3, 4, 5, 6, 7, 0] rfl ?_
            refine J.to ?_ ?_ (ih25 _ ?_ (i + 1) hlt25 rfl)
            · first | (first | rfl | (simp [zc29, zc69, zc89]; done)) | fail
            · first | (simp only [nI_s, bt_s]; first | (rw [if_pos zc69, if_pos zc69, if_pos (show xaA σ d j i from ⟨b2_nz zc74, b2_nz zc79⟩)]; done) | (rw [if_pos zc69, if_pos zc69, if_neg (show ¬ xaA σ d j i from fun z => b2_z zc79 z.2), Int32.or_zero]; done) | (rw [if_pos zc69, if_pos zc69, if_neg (show ¬ xaA σ d j i from fun z => b2_z zc74 z.1), Int32.or_zero]; done) | (rw [if_neg zc69, if_neg zc69, if_pos zc89]; done) | (rw [if_neg zc69, if_neg zc69, if_neg (fun z => z zc89), Int32.or_zero]; done)) | fail
            · first | (omega) | fail
          · skip
            refine j_iload hx d_DL_alike_92 6 rfl ?_
            refine j_iconst (v := 1) hx d_DL_alike_94 (by decide) ?_
            refine j_iload hx d_DL_alike_95 7 rfl ?_
            refine j_ishl hx d_DL_alike_97 ?_
            refine j_ior hx d_DL_alike_98 ?_
            refine j_istore hx [(4, .int ((if w = 0 then bt (xaA σ d j) i else bt (fun m => ¬ b2 (fIn (nI m) (rg (σ 16) 3 d)) = b2 (fIn (nI m) (rg (σ 12) 6 j))) i) ||| (1 <<< ((nI i) &&& 31)))), (7, .int (b2 (fIn (nI i) (rg (σ (11 + 1)) 6 j)))), (6, .int (b2 (fIn (nI i) (rg (σ (15 + 1)) 3 d)))), (0, .ref (G.1 0)), (1, .int d), (2, .int j), (3, .int w), (5, .int (nI i))] d_DL_alike_99 (by decide) rfl ?_
            refine j_iinc hx [(5, .int ((nI i) + 1)), (4, .int ((if w = 0 then bt (xaA σ d j) i else bt (fun m => ¬ b2 (fIn (nI m) (rg (σ 16) 3 d)) = b2 (fIn (nI m) (rg (σ 12) 6 j))) i) ||| (1 <<< ((nI i) &&& 31)))), (7, .int (b2 (fIn (nI i) (rg (σ (11 + 1)) 6 j)))), (6, .int (b2 (fIn (nI i) (rg (σ (15 + 1)) 3 d)))), (0, .ref (G.1 0)), (1, .int d), (2, .int j), (3, .int w)] d_DL_alike_101 7 rfl rfl (by decide) rfl ?_
            refine j_goto (tgt := 25) hx d_DL_alike_104 (by decide) ?_
            refine J.lsub (ls' := [(0, .ref (G.1 0)), (1, .int d), (2, .int j), (3, .int w), (4, .int ((if w = 0 then bt (xaA σ d j) i else bt (fun m => ¬ b2 (fIn (nI m) (rg (σ 16) 3 d)) = b2 (fIn (nI m) (rg (σ 12) 6 j))) i) ||| (1 <<< ((nI i) &&& 31)))), (5, .int ((nI i) + 1))]) [4, 5, 6, 7, 1, 0] rfl ?_
            refine J.to ?_ ?_ (ih25 _ ?_ (i + 1) hlt25 rfl)
            · first | (first | rfl | (simp [zc29, zc69, zc89]; done)) | fail
            · first | (simp only [nI_s, bt_s]; first | (rw [if_pos zc69, if_pos zc69, if_pos (show xaA σ d j i from ⟨b2_nz zc74, b2_nz zc79⟩)]; done) | (rw [if_pos zc69, if_pos zc69, if_neg (show ¬ xaA σ d j i from fun z => b2_z zc79 z.2), Int32.or_zero]; done) | (rw [if_pos zc69, if_pos zc69, if_neg (show ¬ xaA σ d j i from fun z => b2_z zc74 z.1), Int32.or_zero]; done) | (rw [if_neg zc69, if_neg zc69, if_pos zc89]; done) | (rw [if_neg zc69, if_neg zc69, if_neg (fun z => z zc89), Int32.or_zero]; done)) | fail
            · first | (omega) | fail
        · skip
          refine j_iload hx d_DL_alike_72 1 rfl ?_
          refine j_if_eq (tgt := 101) hx d_DL_alike_74 (by decide) (fun zc74 => ?_) (fun zc74 => ?_)
          · skip
            refine j_iinc hx [(5, .int ((nI i) + 1)), (7, .int (b2 (fIn (nI i) (rg (σ (11 + 1)) 6 j)))), (6, .int (b2 (fIn (nI i) (rg (σ (15 + 1)) 3 d)))), (0, .ref (G.1 0)), (1, .int d), (2, .int j), (3, .int w), (4, .int (if w = 0 then bt (xaA σ d j) i else bt (fun m => ¬ b2 (fIn (nI m) (rg (σ 16) 3 d)) = b2 (fIn (nI m) (rg (σ 12) 6 j))) i))] d_DL_alike_101 7 rfl rfl (by decide) rfl ?_
            refine j_goto (tgt := 25) hx d_DL_alike_104 (by decide) ?_
            refine J.lsub (ls' := [(0, .ref (G.1 0)), (1, .int d), (2, .int j), (3, .int w), (4, .int (if w = 0 then bt (xaA σ d j) i else bt (fun m => ¬ b2 (fIn (nI m) (rg (σ 16) 3 d)) = b2 (fIn (nI m) (rg (σ 12) 6 j))) i)), (5, .int ((nI i) + 1))]) [3, 4, 5, 6, 7, 0] rfl ?_
            refine J.to ?_ ?_ (ih25 _ ?_ (i + 1) hlt25 rfl)
            · first | (first | rfl | (simp [zc29, zc69, zc74]; done)) | fail
            · first | (simp only [nI_s, bt_s]; first | (rw [if_pos zc69, if_pos zc69, if_pos (show xaA σ d j i from ⟨b2_nz zc74, b2_nz zc79⟩)]; done) | (rw [if_pos zc69, if_pos zc69, if_neg (show ¬ xaA σ d j i from fun z => b2_z zc79 z.2), Int32.or_zero]; done) | (rw [if_pos zc69, if_pos zc69, if_neg (show ¬ xaA σ d j i from fun z => b2_z zc74 z.1), Int32.or_zero]; done) | (rw [if_neg zc69, if_neg zc69, if_pos zc89]; done) | (rw [if_neg zc69, if_neg zc69, if_neg (fun z => z zc89), Int32.or_zero]; done)) | fail
            · first | (omega) | fail
          · skip
            refine j_iload hx d_DL_alike_77 0 rfl ?_
            refine j_if_eq (tgt := 101) hx d_DL_alike_79 (by decide) (fun zc79 => ?_) (fun zc79 => ?_)
            · skip
              refine j_iinc hx [(5, .int ((nI i) + 1)), (7, .int (b2 (fIn (nI i) (rg (σ (11 + 1)) 6 j)))), (6, .int (b2 (fIn (nI i) (rg (σ (15 + 1)) 3 d)))), (0, .ref (G.1 0)), (1, .int d), (2, .int j), (3, .int w), (4, .int (if w = 0 then bt (xaA σ d j) i else bt (fun m => ¬ b2 (fIn (nI m) (rg (σ 16) 3 d)) = b2 (fIn (nI m) (rg (σ 12) 6 j))) i))] d_DL_alike_101 7 rfl rfl (by decide) rfl ?_
              refine j_goto (tgt := 25) hx d_DL_alike_104 (by decide) ?_
              refine J.lsub (ls' := [(0, .ref (G.1 0)), (1, .int d), (2, .int j), (3, .int w), (4, .int (if w = 0 then bt (xaA σ d j) i else bt (fun m => ¬ b2 (fIn (nI m) (rg (σ 16) 3 d)) = b2 (fIn (nI m) (rg (σ 12) 6 j))) i)), (5, .int ((nI i) + 1))]) [3, 4, 5, 6, 7, 0] rfl ?_
              refine J.to ?_ ?_ (ih25 _ ?_ (i + 1) hlt25 rfl)
              · first | (first | rfl | (simp [zc29, zc69, zc74, zc79]; done)) | fail
              · first | (simp only [nI_s, bt_s]; first | (rw [if_pos zc69, if_pos zc69, if_pos (show xaA σ d j i from ⟨b2_nz zc74, b2_nz zc79⟩)]; done) | (rw [if_pos zc69, if_pos zc69, if_neg (show ¬ xaA σ d j i from fun z => b2_z zc79 z.2), Int32.or_zero]; done) | (rw [if_pos zc69, if_pos zc69, if_neg (show ¬ xaA σ d j i from fun z => b2_z zc74 z.1), Int32.or_zero]; done) | (rw [if_neg zc69, if_neg zc69, if_pos zc89]; done) | (rw [if_neg zc69, if_neg zc69, if_neg (fun z => z zc89), Int32.or_zero]; done)) | fail
              · first | (omega) | fail
            · skip
              refine j_goto (tgt := 92) hx d_DL_alike_82 (by decide) ?_
              refine j_iload hx d_DL_alike_92 6 rfl ?_
              refine j_iconst (v := 1) hx d_DL_alike_94 (by decide) ?_
              refine j_iload hx d_DL_alike_95 7 rfl ?_
              refine j_ishl hx d_DL_alike_97 ?_
              refine j_ior hx d_DL_alike_98 ?_
              refine j_istore hx [(4, .int ((if w = 0 then bt (xaA σ d j) i else bt (fun m => ¬ b2 (fIn (nI m) (rg (σ 16) 3 d)) = b2 (fIn (nI m) (rg (σ 12) 6 j))) i) ||| (1 <<< ((nI i) &&& 31)))), (7, .int (b2 (fIn (nI i) (rg (σ (11 + 1)) 6 j)))), (6, .int (b2 (fIn (nI i) (rg (σ (15 + 1)) 3 d)))), (0, .ref (G.1 0)), (1, .int d), (2, .int j), (3, .int w), (5, .int (nI i))] d_DL_alike_99 (by decide) rfl ?_
              refine j_iinc hx [(5, .int ((nI i) + 1)), (4, .int ((if w = 0 then bt (xaA σ d j) i else bt (fun m => ¬ b2 (fIn (nI m) (rg (σ 16) 3 d)) = b2 (fIn (nI m) (rg (σ 12) 6 j))) i) ||| (1 <<< ((nI i) &&& 31)))), (7, .int (b2 (fIn (nI i) (rg (σ (11 + 1)) 6 j)))), (6, .int (b2 (fIn (nI i) (rg (σ (15 + 1)) 3 d)))), (0, .ref (G.1 0)), (1, .int d), (2, .int j), (3, .int w)] d_DL_alike_101 7 rfl rfl (by decide) rfl ?_
              refine j_goto (tgt := 25) hx d_DL_alike_104 (by decide) ?_
              refine J.lsub (ls' := [(0, .ref (G.1 0)), (1, .int d), (2, .int j), (3, .int w), (4, .int ((if w = 0 then bt (xaA σ d j) i else bt (fun m => ¬ b2 (fIn (nI m) (rg (σ 16) 3 d)) = b2 (fIn (nI m) (rg (σ 12) 6 j))) i) ||| (1 <<< ((nI i) &&& 31)))), (5, .int ((nI i) + 1))]) [4, 5, 6, 7, 1, 0] rfl ?_
              refine J.to ?_ ?_ (ih25 _ ?_ (i + 1) hlt25 rfl)
              · first | (first | rfl | (simp [zc29, zc69, zc74, zc79]; done)) | fail
              · first | (simp only [nI_s, bt_s]; first | (rw [if_pos zc69, if_pos zc69, if_pos (show xaA σ d j i from ⟨b2_nz zc74, b2_nz zc79⟩)]; done) | (rw [if_pos zc69, if_pos zc69, if_neg (show ¬ xaA σ d j i from fun z => b2_z zc79 z.2), Int32.or_zero]; done) | (rw [if_pos zc69, if_pos zc69, if_neg (show ¬ xaA σ d j i from fun z => b2_z zc74 z.1), Int32.or_zero]; done) | (rw [if_neg zc69, if_neg zc69, if_pos zc89]; done) | (rw [if_neg zc69, if_neg zc69, if_neg (fun z => z zc89), Int32.or_zero]; done)) | fail
              · first | (omega) | fail
  refine J.lsub (ls' := [(0, .ref (G.1 0)), (1, .int d), (2, .int j), (3, .int w), (4, .int 0), (5, .int 0)]) [2, 3, 4, 5, 1, 0] rfl ?_
  refine J.to ?_ ?_ (hl25 _ 0 (Nat.zero_le _) rfl)
  · first | (first | rfl | (simp []; done)) | fail
  · first | (by_cases hw0 : w = 0 <;> first | (rw [if_pos hw0]; rfl) | (rw [if_neg hw0]; rfl)) | fail

set_option maxRecDepth 20000 in
set_option maxHeartbeats 600000 in
theorem c_DL_brightest {l : Launch} {G : Gz} (hG : zI G) (σ : St) (w : Int32) (a0 : ¬ w < 0) (bb0 : w ≤ 1) : MI l G y_DL_brightest prog_1_method_32_code 6 .int 6 [.ref (G.1 0), .int w] σ (if w = 0 then (xbr σ (ct (cM σ 0))).1 else (xbr σ (ct (cM σ 0))).2) σ := by
  refine MI.of hG (by decide) (Nat.le_of_ble_eq_true rfl) (fun X hx hq => ?_)
  show J l G X 6 σ 0 [(0, .ref (G.1 0)), (1, .int w)] []
  refine j_aload_n hx d_DL_brightest_0 rfl 0 rfl ?_
  refine j_iload_n hx d_DL_brightest_1 rfl 1 rfl ?_
  refine j_iconst (v := 0) hx d_DL_brightest_2 (by decide) ?_
  refine j_iconst (v := 1) hx d_DL_brightest_3 (by decide) ?_
  refine j_callVv hx (c_DL_needWithin hG σ w 0 1 (by exact a0) (by exact bb0)) mo_DL_needWithin mv_DL_needWithin t_562 (by decide) rfl (by decide) (sh_0 _ _) rfl rfl (Nat.le_of_ble_eq_true rfl) d_DL_brightest_4 ?_
  refine j_iconst (v := (-1)) hx d_DL_brightest_7 (by decide) ?_
  refine j_istore_n hx [(2, .int ((-1))), (0, .ref (G.1 0)), (1, .int w)] d_DL_brightest_8 rfl (by decide) rfl ?_
  refine j_iconst (v := (-1)) hx d_DL_brightest_9 (by decide) ?_
  refine j_istore_n hx [(3, .int ((-1))), (2, .int ((-1))), (0, .ref (G.1 0)), (1, .int w)] d_DL_brightest_10 rfl (by decide) rfl ?_
  refine j_iconst (v := 0) hx d_DL_brightest_11 (by decide) ?_
  refine j_istore hx [(4, .int 0), (3, .int ((-1))), (2, .int ((-1))), (0, .ref (G.1 0)), (1, .int w)] d_DL_brightest_12 (by decide) rfl ?_
  have hl14 : ∀ (N9 : Nat) (i : Nat), (i ≤ (ct (cM σ 0))) → (ct (cM σ 0)) - i = N9 → J l G X 6 σ 14 [(0, .ref (G.1 0)), (1, .int w), (2, .int ((xbr σ i).1)), (3, .int ((xbr σ i).2)), (4, .int (nI i))] [] := by
    intro N9
    induction N9 using Nat.strongRecOn with
    | _ N9 ih14 =>
      intro i hi_i hm14
      refine j_iload hx d_DL_brightest_14 4 rfl ?_
      refine j_aload_n hx d_DL_brightest_16 rfl 0 rfl ?_
      refine j_get hx ck_DL 1 (by decide) t_327 (by decide) (sh_0 _ _) rfl d_DL_brightest_17 ?_
      refine j_get hx ck_Coast 0 (by decide) t_85 (by decide) (sh_4 _ _) rfl d_DL_brightest_20 ?_
      refine j_iconst (v := 0) hx d_DL_brightest_23 (by decide) ?_
      refine j_callVi hx (c_Row_getA hG ir_5 6 rfl σ 0) mo_Row_get mv_Row_get t_475 (by decide) rfl (by decide) (sh_5 _ _) rfl rfl (Nat.le_of_ble_eq_true rfl) d_DL_brightest_24 ?_
      refine j_icmp_ge (tgt := 58) hx d_DL_brightest_27 (by decide) (fun zc27 => ?_) (fun zc27 => ?_)
      · skip
        obtain rfl := ct_end' hi_i zc27
        refine j_iload_n hx d_DL_brightest_58 rfl 1 rfl ?_
        refine j_if_ne (tgt := 66) hx d_DL_brightest_59 (by decide) (fun zc59 => ?_) (fun zc59 => ?_)
        · skip
          refine j_iload_n hx d_DL_brightest_66 rfl 3 rfl ?_
          exact j_iret hx hq rfl d_DL_brightest_67 (by first | (first | exact (if_pos zc59).symm | exact (if_neg zc59).symm) | fail) (by first | (first | rfl | (simp only [zc27, zc59]; done) | (simp [zc27, zc59]; done)) | fail)
        · skip
          refine j_iload_n hx d_DL_brightest_62 rfl 2 rfl ?_
          refine j_goto (tgt := 67) hx d_DL_brightest_63 (by decide) ?_
          exact j_iret hx hq rfl d_DL_brightest_67 (by first | (first | exact (if_pos zc59).symm | exact (if_neg zc59).symm) | fail) (by first | (first | rfl | (simp only [zc27, zc59]; done) | (simp [zc27, zc59]; done)) | fail)
      · skip
        have hlt14 := ct_go hi_i zc27
        refine j_aload_n hx d_DL_brightest_30 rfl 0 rfl ?_
        refine j_iload hx d_DL_brightest_31 4 rfl ?_
        refine j_iload hx d_DL_brightest_33 4 rfl ?_
        refine j_callVi hx (c_DL_flashesSeen hG σ (nI i) (nI i)) mo_DL_flashesSeen mv_DL_flashesSeen t_1046 (by decide) rfl (by decide) (sh_0 _ _) rfl rfl (Nat.le_of_ble_eq_true rfl) d_DL_brightest_35 ?_
        refine j_istore hx [(5, .int (fsn σ (nI i) (nI i))), (0, .ref (G.1 0)), (1, .int w), (2, .int ((xbr σ i).1)), (3, .int ((xbr σ i).2)), (4, .int (nI i))] d_DL_brightest_38 (by decide) rfl ?_
        refine j_iload hx d_DL_brightest_40 0 rfl ?_
        refine j_iload_n hx d_DL_brightest_42 rfl 4 rfl ?_
        refine j_icmp_le (tgt := 52) hx d_DL_brightest_43 (by decide) (fun zc43 => ?_) (fun zc43 => ?_)
        · skip
          refine j_iinc hx [(4, .int ((nI i) + 1)), (5, .int (fsn σ (nI i) (nI i))), (0, .ref (G.1 0)), (1, .int w), (2, .int ((xbr σ i).1)), (3, .int ((xbr σ i).2))] d_DL_brightest_52 5 rfl rfl (by decide) rfl ?_
          refine j_goto (tgt := 14) hx d_DL_brightest_55 (by decide) ?_
          refine J.lsub (ls' := [(0, .ref (G.1 0)), (1, .int w), (2, .int ((xbr σ i).1)), (3, .int ((xbr σ i).2)), (4, .int ((nI i) + 1))]) [2, 3, 4, 5, 0] rfl ?_
          refine J.to ?_ ?_ (ih14 _ ?_ (i + 1) hlt14 rfl)
          · first | (first | rfl | (simp [zc27, zc43]; done)) | fail
          · first | (simp only [nI_s]; first | (rw [xbr_1 (i_nle zc43)]; done) | (rw [xbr_2 (i_lelt zc43)]; done) | (rw [xbr_1 zc43]; done) | (rw [xbr_2 zc43]; done)) | fail
          · first | (omega) | fail
        · skip
          refine j_iload hx d_DL_brightest_46 5 rfl ?_
          refine j_istore_n hx [(2, .int (nI i)), (5, .int (fsn σ (nI i) (nI i))), (0, .ref (G.1 0)), (1, .int w), (3, .int ((xbr σ i).2)), (4, .int (nI i))] d_DL_brightest_48 rfl (by decide) rfl ?_
          refine j_iload hx d_DL_brightest_49 1 rfl ?_
          refine j_istore_n hx [(3, .int (fsn σ (nI i) (nI i))), (2, .int (nI i)), (5, .int (fsn σ (nI i) (nI i))), (0, .ref (G.1 0)), (1, .int w), (4, .int (nI i))] d_DL_brightest_51 rfl (by decide) rfl ?_
          refine j_iinc hx [(4, .int ((nI i) + 1)), (3, .int (fsn σ (nI i) (nI i))), (2, .int (nI i)), (5, .int (fsn σ (nI i) (nI i))), (0, .ref (G.1 0)), (1, .int w)] d_DL_brightest_52 5 rfl rfl (by decide) rfl ?_
          refine j_goto (tgt := 14) hx d_DL_brightest_55 (by decide) ?_
          refine J.lsub (ls' := [(0, .ref (G.1 0)), (1, .int w), (2, .int (nI i)), (3, .int (fsn σ (nI i) (nI i))), (4, .int ((nI i) + 1))]) [4, 5, 2, 1, 0] rfl ?_
          refine J.to ?_ ?_ (ih14 _ ?_ (i + 1) hlt14 rfl)
          · first | (first | rfl | (simp [zc27, zc43]; done)) | fail
          · first | (simp only [nI_s]; first | (rw [xbr_1 (i_nle zc43)]; done) | (rw [xbr_2 (i_lelt zc43)]; done) | (rw [xbr_1 zc43]; done) | (rw [xbr_2 zc43]; done)) | fail
          · first | (omega) | fail
  refine J.lsub (ls' := [(0, .ref (G.1 0)), (1, .int w), (2, .int ((-1))), (3, .int ((-1))), (4, .int 0)]) [3, 4, 2, 1, 0] rfl ?_
  refine J.to ?_ ?_ (hl14 _ 0 (Nat.zero_le _) rfl)
  · first | (first | rfl | (simp []; done)) | fail
  · first | (rfl) | fail

set_option maxRecDepth 20000 in
set_option maxHeartbeats 600000 in
theorem c_DL_blind {l : Launch} {G : Gz} (hG : zI G) (σ : St) (s : Int32) (a0 : ¬ s < 0) (bb0 : s < rg (σ 6) 6 3) (hw : (lmi (xps σ s).2 (xps σ s).1).toInt < 1000) : MI l G y_DL_blind prog_1_method_30_code 2 .int 6 [.ref (G.1 0), .int s] σ (fbl (xps σ s).2 (cl (lmi (xps σ s).2 (xps σ s).1))) ((xps σ s).2) := by
  refine MI.of hG (by decide) (Nat.le_of_ble_eq_true rfl) (fun X hx hq => ?_)
  show J l G X 2 σ 0 [(0, .ref (G.1 0)), (1, .int s)] []
  refine j_aload_n hx d_DL_blind_0 rfl 0 rfl ?_
  refine j_iconst (v := 3) hx d_DL_blind_1 (by decide) ?_
  refine j_iload_n hx d_DL_blind_2 rfl 1 rfl ?_
  refine j_callVv hx (c_DL_needThere hG σ 3 s (by exact a0) (by exact bb0)) mo_DL_needThere mv_DL_needThere t_984 (by decide) rfl (by decide) (sh_0 _ _) rfl rfl (Nat.le_of_ble_eq_true rfl) d_DL_blind_3 ?_
  refine j_aload_n hx d_DL_blind_6 rfl 0 rfl ?_
  refine j_get hx ck_DL 9 (by decide) t_335 (by decide) (sh_0 _ _) rfl d_DL_blind_7 ?_
  refine j_aload_n hx d_DL_blind_10 rfl 0 rfl ?_
  refine j_get hx ck_DL 1 (by decide) t_327 (by decide) (sh_0 _ _) rfl d_DL_blind_11 ?_
  refine j_aload_n hx d_DL_blind_14 rfl 0 rfl ?_
  refine j_get hx ck_DL 3 (by decide) t_329 (by decide) (sh_0 _ _) rfl d_DL_blind_15 ?_
  refine j_aload_n hx d_DL_blind_18 rfl 0 rfl ?_
  refine j_get hx ck_DL 8 (by decide) t_334 (by decide) (sh_0 _ _) rfl d_DL_blind_19 ?_
  refine j_callVv hx (c_Passing_begin hG isNights_81 σ) mo_Passing_begin mv_Passing_begin t_424 (by decide) rfl (by decide) (sh_84 _ _) rfl rfl (Nat.le_of_ble_eq_true rfl) d_DL_blind_22 ?_
  refine j_aload_n hx d_DL_blind_25 rfl 0 rfl ?_
  refine j_get hx ck_DL 9 (by decide) t_335 (by decide) (sh_0 _ _) rfl d_DL_blind_26 ?_
  refine j_aload_n hx d_DL_blind_29 rfl 0 rfl ?_
  refine j_get hx ck_DL 1 (by decide) t_327 (by decide) (sh_0 _ _) rfl d_DL_blind_30 ?_
  refine j_aload_n hx d_DL_blind_33 rfl 0 rfl ?_
  refine j_get hx ck_DL 9 (by decide) t_335 (by decide) (sh_0 _ _) rfl d_DL_blind_34 ?_
  refine j_aload_n hx d_DL_blind_37 rfl 0 rfl ?_
  refine j_get hx ck_DL 1 (by decide) t_327 (by decide) (sh_0 _ _) rfl d_DL_blind_38 ?_
  refine j_aload_n hx d_DL_blind_41 rfl 0 rfl ?_
  refine j_get hx ck_DL 3 (by decide) t_329 (by decide) (sh_0 _ _) rfl d_DL_blind_42 ?_
  refine j_iload_n hx d_DL_blind_45 rfl 1 rfl ?_
  refine j_callVi hx (c_Passing_struckIn hG (pbS σ 81) s) mo_Passing_struckIn mv_Passing_struckIn t_476 (by decide) rfl (by decide) (sh_84 _ _) rfl rfl (Nat.le_of_ble_eq_true rfl) d_DL_blind_46 ?_
  refine j_callVi hx (c_Passing_firstBlind hG ((psk (pbS σ 81) s).2) ((psk (pbS σ 81) s).1) (by exact hw)) mo_Passing_firstBlind mv_Passing_firstBlind t_1301 (by decide) rfl (by decide) (sh_84 _ _) rfl rfl (Nat.le_of_ble_eq_true rfl) d_DL_blind_49 ?_
  exact j_iret hx hq rfl d_DL_blind_52 (by first | (rfl) | fail) (by first | (rfl) | fail)

set_option maxRecDepth 20000 in
set_option maxHeartbeats 600000 in
theorem c_DL_tried {l : Launch} {G : Gz} (hG : zI G) (σ : St) (s : Int32) (w : Int32) (a0 : ¬ s < 0) (bb0 : s < rg (σ 6) 6 3) (a1 : ¬ w < 0) (bb1 : w ≤ 4) (hw : (lmi (xps σ s).2 (xps σ s).1).toInt < 1000) : MI l G y_DL_tried prog_1_method_16_code 4 .int 6 [.ref (G.1 0), .int s, .int w] σ (xtr σ s w) (xtS σ s w) := by
  refine MI.of hG (by decide) (Nat.le_of_ble_eq_true rfl) (fun X hx hq => ?_)
  show J l G X 4 σ 0 [(0, .ref (G.1 0)), (1, .int s), (2, .int w)] []
  refine j_aload_n hx d_DL_tried_0 rfl 0 rfl ?_
  refine j_iconst (v := 3) hx d_DL_tried_1 (by decide) ?_
  refine j_iload_n hx d_DL_tried_2 rfl 1 rfl ?_
  refine j_callVv hx (c_DL_needThere hG σ 3 s (by exact a0) (by exact bb0)) mo_DL_needThere mv_DL_needThere t_984 (by decide) rfl (by decide) (sh_0 _ _) rfl rfl (Nat.le_of_ble_eq_true rfl) d_DL_tried_3 ?_
  refine j_aload_n hx d_DL_tried_6 rfl 0 rfl ?_
  refine j_iload_n hx d_DL_tried_7 rfl 2 rfl ?_
  refine j_iconst (v := 0) hx d_DL_tried_8 (by decide) ?_
  refine j_iconst (v := 4) hx d_DL_tried_9 (by decide) ?_
  refine j_callVv hx (c_DL_needWithin hG σ w 0 4 (by exact a1) (by exact bb1)) mo_DL_needWithin mv_DL_needWithin t_562 (by decide) rfl (by decide) (sh_0 _ _) rfl rfl (Nat.le_of_ble_eq_true rfl) d_DL_tried_10 ?_
  refine j_aload_n hx d_DL_tried_13 rfl 0 rfl ?_
  refine j_get hx ck_DL 9 (by decide) t_335 (by decide) (sh_0 _ _) rfl d_DL_tried_14 ?_
  refine j_aload_n hx d_DL_tried_17 rfl 0 rfl ?_
  refine j_get hx ck_DL 1 (by decide) t_327 (by decide) (sh_0 _ _) rfl d_DL_tried_18 ?_
  refine j_aload_n hx d_DL_tried_21 rfl 0 rfl ?_
  refine j_get hx ck_DL 3 (by decide) t_329 (by decide) (sh_0 _ _) rfl d_DL_tried_22 ?_
  refine j_aload_n hx d_DL_tried_25 rfl 0 rfl ?_
  refine j_get hx ck_DL 8 (by decide) t_334 (by decide) (sh_0 _ _) rfl d_DL_tried_26 ?_
  refine j_callVv hx (c_Passing_begin hG isNights_81 σ) mo_Passing_begin mv_Passing_begin t_424 (by decide) rfl (by decide) (sh_84 _ _) rfl rfl (Nat.le_of_ble_eq_true rfl) d_DL_tried_29 ?_
  refine j_aload_n hx d_DL_tried_32 rfl 0 rfl ?_
  refine j_get hx ck_DL 9 (by decide) t_335 (by decide) (sh_0 _ _) rfl d_DL_tried_33 ?_
  refine j_aload_n hx d_DL_tried_36 rfl 0 rfl ?_
  refine j_get hx ck_DL 1 (by decide) t_327 (by decide) (sh_0 _ _) rfl d_DL_tried_37 ?_
  refine j_aload_n hx d_DL_tried_40 rfl 0 rfl ?_
  refine j_get hx ck_DL 3 (by decide) t_329 (by decide) (sh_0 _ _) rfl d_DL_tried_41 ?_
  refine j_iload_n hx d_DL_tried_44 rfl 1 rfl ?_
  refine j_callVi hx (c_Passing_struckIn hG (pbS σ 81) s) mo_Passing_struckIn mv_Passing_struckIn t_476 (by decide) rfl (by decide) (sh_84 _ _) rfl rfl (Nat.le_of_ble_eq_true rfl) d_DL_tried_45 ?_
  refine j_istore_n hx [(3, .int ((psk (pbS σ 81) s).1)), (0, .ref (G.1 0)), (1, .int s), (2, .int w)] d_DL_tried_48 rfl (by decide) rfl ?_
  refine j_iload_n hx d_DL_tried_49 rfl 3 rfl ?_
  refine J.sw (x := w) 0 (fun zc50_0 => ?_) (fun zc50_0 => ?_)
  · skip
    refine j_tableIn (x := w) (tgt := 80) (off := 30) hx d_DL_tried_50 (by rw [zc50_0]; decide) (by rw [zc50_0]; decide) (by rw [zc50_0]; decide) (by decide) ?_
    refine j_iload_n hx d_DL_tried_80 rfl 0 rfl ?_
    exact j_iret hx hq rfl d_DL_tried_81 (by first | (unfold xtr; exact (if_pos zc50_0).symm) | fail) (by first | (unfold xtS; rw [if_neg (by rw [zc50_0]; decide)]; rfl) | fail)
  refine J.sw (x := w) 1 (fun zc50_1 => ?_) (fun zc50_1 => ?_)
  · skip
    refine j_tableIn (x := w) (tgt := 82) (off := 32) hx d_DL_tried_50 (by rw [zc50_1]; decide) (by rw [zc50_1]; decide) (by rw [zc50_1]; decide) (by decide) ?_
    refine j_aload_n hx d_DL_tried_82 rfl 1 rfl ?_
    refine j_get hx ck_DL 9 (by decide) t_335 (by decide) (sh_0 _ _) rfl d_DL_tried_83 ?_
    refine j_aload_n hx d_DL_tried_86 rfl 1 rfl ?_
    refine j_get hx ck_DL 1 (by decide) t_327 (by decide) (sh_0 _ _) rfl d_DL_tried_87 ?_
    refine j_aload_n hx d_DL_tried_90 rfl 1 rfl ?_
    refine j_get hx ck_DL 3 (by decide) t_329 (by decide) (sh_0 _ _) rfl d_DL_tried_91 ?_
    refine j_iload_n hx d_DL_tried_94 rfl 2 rfl ?_
    refine j_iload_n hx d_DL_tried_95 rfl 0 rfl ?_
    refine j_callVi hx (c_Passing_steeredCells hG ((psk (pbS σ 81) s).2) s ((psk (pbS σ 81) s).1) (by exact hw)) mo_Passing_steeredCells mv_Passing_steeredCells t_1070 (by decide) rfl (by decide) (sh_84 _ _) rfl rfl (Nat.le_of_ble_eq_true rfl) d_DL_tried_96 ?_
    exact j_iret hx hq rfl d_DL_tried_99 (by first | (unfold xtr; rw [if_neg zc50_0]; exact (if_pos zc50_1).symm) | fail) (by first | (unfold xtS; exact (if_pos zc50_1).symm) | fail)
  refine J.sw (x := w) 2 (fun zc50_2 => ?_) (fun zc50_2 => ?_)
  · skip
    refine j_tableIn (x := w) (tgt := 100) (off := 50) hx d_DL_tried_50 (by rw [zc50_2]; decide) (by rw [zc50_2]; decide) (by rw [zc50_2]; decide) (by decide) ?_
    refine j_aload_n hx d_DL_tried_100 rfl 1 rfl ?_
    refine j_get hx ck_DL 1 (by decide) t_327 (by decide) (sh_0 _ _) rfl d_DL_tried_101 ?_
    refine j_iload_n hx d_DL_tried_104 rfl 2 rfl ?_
    refine j_iload_n hx d_DL_tried_105 rfl 0 rfl ?_
    refine j_callVi hx (c_Coast_alive hG ((psk (pbS σ 81) s).2) s ((psk (pbS σ 81) s).1)) mo_Coast_alive mv_Coast_alive t_1077 (by decide) rfl (by decide) (sh_4 _ _) rfl rfl (Nat.le_of_ble_eq_true rfl) d_DL_tried_106 ?_
    exact j_iret hx hq rfl d_DL_tried_109 (by first | (unfold xtr; rw [if_neg zc50_0, if_neg zc50_1]; exact (if_pos zc50_2).symm) | fail) (by first | (unfold xtS; exact (if_neg zc50_1).symm) | fail)
  refine J.sw (x := w) 3 (fun zc50_3 => ?_) (fun zc50_3 => ?_)
  · skip
    refine j_tableIn (x := w) (tgt := 110) (off := 60) hx d_DL_tried_50 (by rw [zc50_3]; decide) (by rw [zc50_3]; decide) (by rw [zc50_3]; decide) (by decide) ?_
    refine j_aload_n hx d_DL_tried_110 rfl 1 rfl ?_
    refine j_get hx ck_DL 1 (by decide) t_327 (by decide) (sh_0 _ _) rfl d_DL_tried_111 ?_
    refine j_iload_n hx d_DL_tried_114 rfl 2 rfl ?_
    refine j_iload_n hx d_DL_tried_115 rfl 0 rfl ?_
    refine j_callVi hx (c_Coast_parishCargo hG ((psk (pbS σ 81) s).2) s ((psk (pbS σ 81) s).1)) mo_Coast_parishCargo mv_Coast_parishCargo t_1078 (by decide) rfl (by decide) (sh_4 _ _) rfl rfl (Nat.le_of_ble_eq_true rfl) d_DL_tried_116 ?_
    exact j_iret hx hq rfl d_DL_tried_119 (by first | (unfold xtr; rw [if_neg zc50_0, if_neg zc50_1, if_neg zc50_2]; exact (if_pos zc50_3).symm) | fail) (by first | (unfold xtS; exact (if_neg zc50_1).symm) | fail)
  refine j_tableOut (x := w) (tgt := 120) hx d_DL_tried_50 (by have h0 := sw_ne zc50_0; have h1 := sw_ne zc50_1; have h2 := sw_ne zc50_2; have h3 := sw_ne zc50_3; have q0 : Int32.toInt 0 = 0 := rfl; have q1 : Int32.toInt 1 = 1 := rfl; have q2 : Int32.toInt 2 = 2 := rfl; have q3 : Int32.toInt 3 = 3 := rfl; omega) (by decide) ?_
  refine j_aload_n hx d_DL_tried_120 rfl 1 rfl ?_
  refine j_get hx ck_DL 9 (by decide) t_335 (by decide) (sh_0 _ _) rfl d_DL_tried_121 ?_
  refine j_aload_n hx d_DL_tried_124 rfl 1 rfl ?_
  refine j_get hx ck_DL 1 (by decide) t_327 (by decide) (sh_0 _ _) rfl d_DL_tried_125 ?_
  refine j_iload_n hx d_DL_tried_128 rfl 0 rfl ?_
  refine j_callVi hx (c_Passing_flashesTo hG ((psk (pbS σ 81) s).2) ((psk (pbS σ 81) s).1) (by exact hw)) mo_Passing_flashesTo mv_Passing_flashesTo t_1079 (by decide) rfl (by decide) (sh_84 _ _) rfl rfl (Nat.le_of_ble_eq_true rfl) d_DL_tried_129 ?_
  exact j_iret hx hq rfl d_DL_tried_132 (by first | (unfold xtr; rw [if_neg zc50_0, if_neg zc50_1, if_neg zc50_2, if_neg zc50_3]; rfl) | fail) (by first | (unfold xtS; exact (if_neg zc50_1).symm) | fail)

set_option maxRecDepth 20000 in
set_option maxHeartbeats 600000 in
theorem c_DL_wrecks {l : Launch} {G : Gz} (hG : zI G) (σ : St) (ships : Int32) (w : Int32) (a0 : ¬ ships < 0) (bb0 : ships ≤ 1 <<< (cM σ 3 &&& 31) - 1) (a1 : ¬ w < 0) (bb1 : w ≤ 2) : MI l G y_DL_wrecks prog_1_method_33_code 6 .int 6 [.ref (G.1 0), .int ships, .int w] σ ((xwr σ ships w (ct (cM σ 3))).1) ((xwr σ ships w (ct (cM σ 3))).2) := by
  refine MI.of hG (by decide) (Nat.le_of_ble_eq_true rfl) (fun X hx hq => ?_)
  show J l G X 6 σ 0 [(0, .ref (G.1 0)), (1, .int ships), (2, .int w)] []
  refine j_aload_n hx d_DL_wrecks_0 rfl 0 rfl ?_
  refine j_iload_n hx d_DL_wrecks_1 rfl 1 rfl ?_
  refine j_callVv hx (c_DL_needShips hG σ ships (by exact a0) (by exact bb0)) mo_DL_needShips mv_DL_needShips t_1090 (by decide) rfl (by decide) (sh_0 _ _) rfl rfl (Nat.le_of_ble_eq_true rfl) d_DL_wrecks_2 ?_
  refine j_aload_n hx d_DL_wrecks_5 rfl 0 rfl ?_
  refine j_iload_n hx d_DL_wrecks_6 rfl 2 rfl ?_
  refine j_iconst (v := 0) hx d_DL_wrecks_7 (by decide) ?_
  refine j_iconst (v := 2) hx d_DL_wrecks_8 (by decide) ?_
  refine j_callVv hx (c_DL_needWithin hG σ w 0 2 (by exact a1) (by exact bb1)) mo_DL_needWithin mv_DL_needWithin t_562 (by decide) rfl (by decide) (sh_0 _ _) rfl rfl (Nat.le_of_ble_eq_true rfl) d_DL_wrecks_9 ?_
  refine j_aload_n hx d_DL_wrecks_12 rfl 0 rfl ?_
  refine j_get hx ck_DL 9 (by decide) t_335 (by decide) (sh_0 _ _) rfl d_DL_wrecks_13 ?_
  refine j_aload_n hx d_DL_wrecks_16 rfl 0 rfl ?_
  refine j_get hx ck_DL 1 (by decide) t_327 (by decide) (sh_0 _ _) rfl d_DL_wrecks_17 ?_
  refine j_aload_n hx d_DL_wrecks_20 rfl 0 rfl ?_
  refine j_get hx ck_DL 3 (by decide) t_329 (by decide) (sh_0 _ _) rfl d_DL_wrecks_21 ?_
  refine j_aload_n hx d_DL_wrecks_24 rfl 0 rfl ?_
  refine j_get hx ck_DL 8 (by decide) t_334 (by decide) (sh_0 _ _) rfl d_DL_wrecks_25 ?_
  refine j_callVv hx (c_Passing_begin hG isNights_81 σ) mo_Passing_begin mv_Passing_begin t_424 (by decide) rfl (by decide) (sh_84 _ _) rfl rfl (Nat.le_of_ble_eq_true rfl) d_DL_wrecks_28 ?_
  refine j_iconst (v := 0) hx d_DL_wrecks_31 (by decide) ?_
  refine j_istore_n hx [(3, .int 0), (0, .ref (G.1 0)), (1, .int ships), (2, .int w)] d_DL_wrecks_32 rfl (by decide) rfl ?_
  refine j_iconst (v := 0) hx d_DL_wrecks_33 (by decide) ?_
  refine j_istore hx [(4, .int 0), (3, .int 0), (0, .ref (G.1 0)), (1, .int ships), (2, .int w)] d_DL_wrecks_34 (by decide) rfl ?_
  have hl36 : ∀ (N9 : Nat) (i : Nat), (i ≤ (ct (cM σ 3))) → (ct (cM σ 3)) - i = N9 → J l G X 6 ((xwr σ ships w i).2) 36 [(0, .ref (G.1 0)), (1, .int ships), (2, .int w), (3, .int ((xwr σ ships w i).1)), (4, .int (nI i))] [] := by
    intro N9
    induction N9 using Nat.strongRecOn with
    | _ N9 ih36 =>
      intro i hi_i hm36
      have hc6 : (xwr σ ships w i).2 6 = σ 6 := xwr_6
      refine j_iload hx d_DL_wrecks_36 4 rfl ?_
      refine j_aload_n hx d_DL_wrecks_38 rfl 0 rfl ?_
      refine j_get hx ck_DL 1 (by decide) t_327 (by decide) (sh_0 _ _) rfl d_DL_wrecks_39 ?_
      refine j_get hx ck_Coast 0 (by decide) t_85 (by decide) (sh_4 _ _) rfl d_DL_wrecks_42 ?_
      refine j_iconst (v := 3) hx d_DL_wrecks_45 (by decide) ?_
      refine j_callVi hx (c_Row_getA hG ir_5 6 rfl ((xwr σ ships w i).2) 3) mo_Row_get mv_Row_get t_475 (by decide) rfl (by decide) (sh_5 _ _) rfl rfl (Nat.le_of_ble_eq_true rfl) d_DL_wrecks_46 ?_
      refine j_icmp_ge (tgt := 108) hx d_DL_wrecks_49 (by decide) (fun zc49 => ?_) (fun zc49 => ?_)
      · skip
        obtain rfl := ct_end' hi_i (by have q9 := zc49; rw [hc6] at q9; exact q9)
        refine j_iload_n hx d_DL_wrecks_108 rfl 3 rfl ?_
        exact j_iret hx hq rfl d_DL_wrecks_109 (by first | (rfl) | fail) (by first | (rfl) | fail)
      · skip
        have hlt36 := ct_go hi_i (by have q9 := zc49; rw [hc6] at q9; exact q9)
        refine j_iload_n hx d_DL_wrecks_52 rfl 1 rfl ?_
        refine j_iload hx d_DL_wrecks_53 4 rfl ?_
        refine j_callSi hx (c_DL_hasBit hG ((xwr σ ships w i).2) ships (nI i)) mo_DL_hasBit t_455 t_1339 (by decide) rfl rfl (Nat.le_of_ble_eq_true rfl) d_DL_wrecks_55 ?_
        refine j_if_eq (tgt := 81) hx d_DL_wrecks_58 (by decide) (fun zc58 => ?_) (fun zc58 => ?_)
        · skip
          refine j_iconst (v := (-1)) hx d_DL_wrecks_81 (by decide) ?_
          refine j_istore hx [(5, .int ((-1))), (0, .ref (G.1 0)), (1, .int ships), (2, .int w), (3, .int ((xwr σ ships w i).1)), (4, .int (nI i))] d_DL_wrecks_82 (by decide) rfl ?_
          refine j_iload hx d_DL_wrecks_84 0 rfl ?_
          refine j_iconst (v := (-1)) hx d_DL_wrecks_86 (by decide) ?_
          refine j_icmp_eq (tgt := 102) hx d_DL_wrecks_87 (by decide) (fun _ => ?_) (fun zc87 => absurd (by decide) zc87)
          refine j_iinc hx [(4, .int ((nI i) + 1)), (5, .int ((-1))), (0, .ref (G.1 0)), (1, .int ships), (2, .int w), (3, .int ((xwr σ ships w i).1))] d_DL_wrecks_102 5 rfl rfl (by decide) rfl ?_
          refine j_goto (tgt := 36) hx d_DL_wrecks_105 (by decide) ?_
          refine J.lsub (ls' := [(0, .ref (G.1 0)), (1, .int ships), (2, .int w), (3, .int ((xwr σ ships w i).1)), (4, .int ((nI i) + 1))]) [2, 3, 4, 5, 0] rfl ?_
          refine J.to ?_ ?_ (ih36 _ ?_ (i + 1) hlt36 rfl)
          · first | (rw [xwr_s]; first | (rw [xwB_0 (b2_z zc58)]; done) | (rw [xwB_1 (b2_nz zc58) zc87]; done) | (rw [xwB_2 (b2_nz zc58) zc87]; done)) | fail
          · first | (simp only [nI_s, xwr_s]; first | (rw [xwB_0 (b2_z zc58)]; done) | (rw [xwB_1 (b2_nz zc58) zc87]; done) | (rw [xwB_2 (b2_nz zc58) zc87]; done)) | fail
          · first | (omega) | fail
        · skip
          refine j_aload_n hx d_DL_wrecks_61 rfl 0 rfl ?_
          refine j_get hx ck_DL 9 (by decide) t_335 (by decide) (sh_0 _ _) rfl d_DL_wrecks_62 ?_
          refine j_aload_n hx d_DL_wrecks_65 rfl 0 rfl ?_
          refine j_get hx ck_DL 1 (by decide) t_327 (by decide) (sh_0 _ _) rfl d_DL_wrecks_66 ?_
          refine j_aload_n hx d_DL_wrecks_69 rfl 0 rfl ?_
          refine j_get hx ck_DL 3 (by decide) t_329 (by decide) (sh_0 _ _) rfl d_DL_wrecks_70 ?_
          refine j_iload hx d_DL_wrecks_73 4 rfl ?_
          refine j_callVi hx (c_Passing_struckIn hG ((xwr σ ships w i).2) (nI i)) mo_Passing_struckIn mv_Passing_struckIn t_476 (by decide) rfl (by decide) (sh_84 _ _) rfl rfl (Nat.le_of_ble_eq_true rfl) d_DL_wrecks_75 ?_
          refine j_goto (tgt := 82) hx d_DL_wrecks_78 (by decide) ?_
          refine j_istore hx [(5, .int ((psk ((xwr σ ships w i).2) (nI i)).1)), (0, .ref (G.1 0)), (1, .int ships), (2, .int w), (3, .int ((xwr σ ships w i).1)), (4, .int (nI i))] d_DL_wrecks_82 (by decide) rfl ?_
          refine j_iload hx d_DL_wrecks_84 0 rfl ?_
          refine j_iconst (v := (-1)) hx d_DL_wrecks_86 (by decide) ?_
          refine j_icmp_eq (tgt := 102) hx d_DL_wrecks_87 (by decide) (fun zc87 => ?_) (fun zc87 => ?_)
          · skip
            refine j_iinc hx [(4, .int ((nI i) + 1)), (5, .int ((psk ((xwr σ ships w i).2) (nI i)).1)), (0, .ref (G.1 0)), (1, .int ships), (2, .int w), (3, .int ((xwr σ ships w i).1))] d_DL_wrecks_102 5 rfl rfl (by decide) rfl ?_
            refine j_goto (tgt := 36) hx d_DL_wrecks_105 (by decide) ?_
            refine J.lsub (ls' := [(0, .ref (G.1 0)), (1, .int ships), (2, .int w), (3, .int ((xwr σ ships w i).1)), (4, .int ((nI i) + 1))]) [2, 3, 4, 5, 0] rfl ?_
            refine J.to ?_ ?_ (ih36 _ ?_ (i + 1) hlt36 rfl)
            · first | (rw [xwr_s]; first | (rw [xwB_0 (b2_z zc58)]; done) | (rw [xwB_1 (b2_nz zc58) zc87]; done) | (rw [xwB_2 (b2_nz zc58) zc87]; done)) | fail
            · first | (simp only [nI_s, xwr_s]; first | (rw [xwB_0 (b2_z zc58)]; done) | (rw [xwB_1 (b2_nz zc58) zc87]; done) | (rw [xwB_2 (b2_nz zc58) zc87]; done)) | fail
            · first | (omega) | fail
          · skip
            refine j_iload_n hx d_DL_wrecks_90 rfl 4 rfl ?_
            refine j_aload_n hx d_DL_wrecks_91 rfl 1 rfl ?_
            refine j_iload hx d_DL_wrecks_92 5 rfl ?_
            refine j_iload hx d_DL_wrecks_94 0 rfl ?_
            refine j_iload_n hx d_DL_wrecks_96 rfl 3 rfl ?_
            refine j_callVi hx (c_DL_wreckNumber hG ((psk ((xwr σ ships w i).2) (nI i)).2) (nI i) ((psk ((xwr σ ships w i).2) (nI i)).1) w) mo_DL_wreckNumber mv_DL_wreckNumber t_1340 (by decide) rfl (by decide) (sh_0 _ _) rfl rfl (Nat.le_of_ble_eq_true rfl) d_DL_wrecks_97 ?_
            refine j_iadd hx d_DL_wrecks_100 ?_
            refine j_istore_n hx [(3, .int (((xwr σ ships w i).1) + (wkn ((psk ((xwr σ ships w i).2) (nI i)).2) (nI i) ((psk ((xwr σ ships w i).2) (nI i)).1) w))), (5, .int ((psk ((xwr σ ships w i).2) (nI i)).1)), (0, .ref (G.1 0)), (1, .int ships), (2, .int w), (4, .int (nI i))] d_DL_wrecks_101 rfl (by decide) rfl ?_
            refine j_iinc hx [(4, .int ((nI i) + 1)), (3, .int (((xwr σ ships w i).1) + (wkn ((psk ((xwr σ ships w i).2) (nI i)).2) (nI i) ((psk ((xwr σ ships w i).2) (nI i)).1) w))), (5, .int ((psk ((xwr σ ships w i).2) (nI i)).1)), (0, .ref (G.1 0)), (1, .int ships), (2, .int w)] d_DL_wrecks_102 5 rfl rfl (by decide) rfl ?_
            refine j_goto (tgt := 36) hx d_DL_wrecks_105 (by decide) ?_
            refine J.lsub (ls' := [(0, .ref (G.1 0)), (1, .int ships), (2, .int w), (3, .int (((xwr σ ships w i).1) + (wkn ((psk ((xwr σ ships w i).2) (nI i)).2) (nI i) ((psk ((xwr σ ships w i).2) (nI i)).1) w))), (4, .int ((nI i) + 1))]) [3, 4, 5, 1, 0] rfl ?_
            refine J.to ?_ ?_ (ih36 _ ?_ (i + 1) hlt36 rfl)
            · first | (rw [xwr_s]; first | (rw [xwB_0 (b2_z zc58)]; done) | (rw [xwB_1 (b2_nz zc58) zc87]; done) | (rw [xwB_2 (b2_nz zc58) zc87]; done)) | fail
            · first | (simp only [nI_s, xwr_s]; first | (rw [xwB_0 (b2_z zc58)]; done) | (rw [xwB_1 (b2_nz zc58) zc87]; done) | (rw [xwB_2 (b2_nz zc58) zc87]; done)) | fail
            · first | (omega) | fail
  refine J.lsub (ls' := [(0, .ref (G.1 0)), (1, .int ships), (2, .int w), (3, .int 0), (4, .int 0)]) [2, 3, 4, 1, 0] rfl ?_
  refine J.to ?_ ?_ (hl36 _ 0 (Nat.zero_le _) rfl)
  · first | (rfl) | fail
  · first | (rfl) | fail

set_option maxRecDepth 20000 in
set_option maxHeartbeats 600000 in
theorem c_DL_winter {l : Launch} {G : Gz} (hG : zI G) (σ : St) (seed : Int32) (n : Int32) (q : Int32) (w : Int32) (a0 : ¬ n < 1) (bb0 : n ≤ 96) (a1 : ¬ q < 0) (bb1 : q ≤ 16) (a2 : ¬ w < 0) (bb2 : w ≤ 3) : MI l G y_DL_winter prog_1_method_34_code 5 .int 8 [.ref (G.1 0), .int seed, .int n, .int q, .int w] σ (if w = 0 then rg ((xwn σ seed n q) 101) 29 2 else if w = 1 then rg ((xwn σ seed n q) 101) 29 3 else if w = 2 then rg ((xwn σ seed n q) 101) 29 5 else (xwn σ seed n q) 98 2) (xwn σ seed n q) := by
  refine MI.of hG (by decide) (Nat.le_of_ble_eq_true rfl) (fun X hx hq => ?_)
  show J l G X 5 σ 0 [(0, .ref (G.1 0)), (1, .int seed), (2, .int n), (3, .int q), (4, .int w)] []
  refine j_aload_n hx d_DL_winter_0 rfl 0 rfl ?_
  refine j_iload_n hx d_DL_winter_1 rfl 2 rfl ?_
  refine j_iconst (v := 1) hx d_DL_winter_2 (by decide) ?_
  refine j_bipush (v := 96) hx d_DL_winter_3 (by decide) ?_
  refine j_callVv hx (c_DL_needWithin hG σ n 1 96 (by exact a0) (by exact bb0)) mo_DL_needWithin mv_DL_needWithin t_562 (by decide) rfl (by decide) (sh_0 _ _) rfl rfl (Nat.le_of_ble_eq_true rfl) d_DL_winter_5 ?_
  refine j_aload_n hx d_DL_winter_8 rfl 0 rfl ?_
  refine j_iload_n hx d_DL_winter_9 rfl 3 rfl ?_
  refine j_iconst (v := 0) hx d_DL_winter_10 (by decide) ?_
  refine j_bipush (v := 16) hx d_DL_winter_11 (by decide) ?_
  refine j_callVv hx (c_DL_needWithin hG σ q 0 16 (by exact a1) (by exact bb1)) mo_DL_needWithin mv_DL_needWithin t_562 (by decide) rfl (by decide) (sh_0 _ _) rfl rfl (Nat.le_of_ble_eq_true rfl) d_DL_winter_13 ?_
  refine j_aload_n hx d_DL_winter_16 rfl 0 rfl ?_
  refine j_iload hx d_DL_winter_17 4 rfl ?_
  refine j_iconst (v := 0) hx d_DL_winter_19 (by decide) ?_
  refine j_iconst (v := 3) hx d_DL_winter_20 (by decide) ?_
  refine j_callVv hx (c_DL_needWithin hG σ w 0 3 (by exact a2) (by exact bb2)) mo_DL_needWithin mv_DL_needWithin t_562 (by decide) rfl (by decide) (sh_0 _ _) rfl rfl (Nat.le_of_ble_eq_true rfl) d_DL_winter_21 ?_
  refine j_aload_n hx d_DL_winter_24 rfl 0 rfl ?_
  refine j_get hx ck_DL 11 (by decide) t_337 (by decide) (sh_0 _ _) rfl d_DL_winter_25 ?_
  refine j_aload_n hx d_DL_winter_28 rfl 0 rfl ?_
  refine j_get hx ck_DL 8 (by decide) t_334 (by decide) (sh_0 _ _) rfl d_DL_winter_29 ?_
  refine j_iload_n hx d_DL_winter_32 rfl 1 rfl ?_
  refine j_callVv hx (c_Winter_begin hG isNights_81 σ seed) mo_Winter_begin mv_Winter_begin t_1351 (by decide) rfl (by decide) (sh_98 _ _) rfl rfl (Nat.le_of_ble_eq_true rfl) d_DL_winter_33 ?_
  refine j_aload_n hx d_DL_winter_36 rfl 0 rfl ?_
  refine j_get hx ck_DL 11 (by decide) t_337 (by decide) (sh_0 _ _) rfl d_DL_winter_37 ?_
  refine j_aload_n hx d_DL_winter_40 rfl 0 rfl ?_
  refine j_get hx ck_DL 1 (by decide) t_327 (by decide) (sh_0 _ _) rfl d_DL_winter_41 ?_
  refine j_aload_n hx d_DL_winter_44 rfl 0 rfl ?_
  refine j_get hx ck_DL 3 (by decide) t_329 (by decide) (sh_0 _ _) rfl d_DL_winter_45 ?_
  refine j_aload_n hx d_DL_winter_48 rfl 0 rfl ?_
  refine j_get hx ck_DL 9 (by decide) t_335 (by decide) (sh_0 _ _) rfl d_DL_winter_49 ?_
  refine j_iload_n hx d_DL_winter_52 rfl 2 rfl ?_
  refine j_iload_n hx d_DL_winter_53 rfl 3 rfl ?_
  refine j_callVv hx (c_Winter_live hG (wbS σ 81 seed) n q) mo_Winter_live mv_Winter_live t_1360 (by decide) rfl (by decide) (sh_98 _ _) rfl rfl (Nat.le_of_ble_eq_true rfl) d_DL_winter_54 ?_
  obtain ⟨s9_1, eg_1⟩ : ∃ z : St, z = xwn σ seed n q := ⟨_, rfl⟩
  refine J.to (σ' := s9_1) (by rw [eg_1]; first | done | rfl) rfl ?_
  refine j_iload hx d_DL_winter_57 4 rfl ?_
  refine J.sw (x := w) 0 (fun zc59_0 => ?_) (fun zc59_0 => ?_)
  · skip
    refine j_tableIn (x := w) (tgt := 84) (off := 25) hx d_DL_winter_59 (by rw [zc59_0]; decide) (by rw [zc59_0]; decide) (by rw [zc59_0]; decide) (by decide) ?_
    refine j_aload_n hx d_DL_winter_84 rfl 0 rfl ?_
    refine j_get hx ck_DL 11 (by decide) t_337 (by decide) (sh_0 _ _) rfl d_DL_winter_85 ?_
    refine j_callVi hx (c_Winter_struck hG s9_1) mo_Winter_struck mv_Winter_struck t_1375 (by decide) rfl (by decide) (sh_98 _ _) rfl rfl (Nat.le_of_ble_eq_true rfl) d_DL_winter_88 ?_
    exact j_iret hx hq rfl d_DL_winter_91 (by first | (rw [eg_1]; exact (if_pos zc59_0).symm) | fail) (by first | (rw [eg_1]) | fail)
  refine J.sw (x := w) 1 (fun zc59_1 => ?_) (fun zc59_1 => ?_)
  · skip
    refine j_tableIn (x := w) (tgt := 92) (off := 33) hx d_DL_winter_59 (by rw [zc59_1]; decide) (by rw [zc59_1]; decide) (by rw [zc59_1]; decide) (by decide) ?_
    refine j_aload_n hx d_DL_winter_92 rfl 0 rfl ?_
    refine j_get hx ck_DL 11 (by decide) t_337 (by decide) (sh_0 _ _) rfl d_DL_winter_93 ?_
    refine j_callVi hx (c_Winter_parish hG s9_1) mo_Winter_parish mv_Winter_parish t_1379 (by decide) rfl (by decide) (sh_98 _ _) rfl rfl (Nat.le_of_ble_eq_true rfl) d_DL_winter_96 ?_
    exact j_iret hx hq rfl d_DL_winter_99 (by first | (rw [eg_1, if_neg zc59_0]; exact (if_pos zc59_1).symm) | fail) (by first | (rw [eg_1]) | fail)
  refine J.sw (x := w) 2 (fun zc59_2 => ?_) (fun zc59_2 => ?_)
  · skip
    refine j_tableIn (x := w) (tgt := 100) (off := 41) hx d_DL_winter_59 (by rw [zc59_2]; decide) (by rw [zc59_2]; decide) (by rw [zc59_2]; decide) (by decide) ?_
    refine j_aload_n hx d_DL_winter_100 rfl 0 rfl ?_
    refine j_get hx ck_DL 11 (by decide) t_337 (by decide) (sh_0 _ _) rfl d_DL_winter_101 ?_
    refine j_callVi hx (c_Winter_alive hG s9_1) mo_Winter_alive mv_Winter_alive t_1383 (by decide) rfl (by decide) (sh_98 _ _) rfl rfl (Nat.le_of_ble_eq_true rfl) d_DL_winter_104 ?_
    exact j_iret hx hq rfl d_DL_winter_107 (by first | (rw [eg_1, if_neg zc59_0, if_neg zc59_1]; exact (if_pos zc59_2).symm) | fail) (by first | (rw [eg_1]) | fail)
  refine j_tableOut (x := w) (tgt := 108) hx d_DL_winter_59 (by have h0 := sw_ne zc59_0; have h1 := sw_ne zc59_1; have h2 := sw_ne zc59_2; have q0 : Int32.toInt 0 = 0 := rfl; have q1 : Int32.toInt 1 = 1 := rfl; have q2 : Int32.toInt 2 = 2 := rfl; omega) (by decide) ?_
  refine j_aload_n hx d_DL_winter_108 rfl 0 rfl ?_
  refine j_get hx ck_DL 11 (by decide) t_337 (by decide) (sh_0 _ _) rfl d_DL_winter_109 ?_
  refine j_callVi hx (c_Winter_foggy hG s9_1) mo_Winter_foggy mv_Winter_foggy t_1387 (by decide) rfl (by decide) (sh_98 _ _) rfl rfl (Nat.le_of_ble_eq_true rfl) d_DL_winter_112 ?_
  exact j_iret hx hq rfl d_DL_winter_115 (by first | (rw [eg_1, if_neg zc59_0, if_neg zc59_1]; exact (if_neg zc59_2).symm) | fail) (by first | (rw [eg_1]) | fail)

set_option maxRecDepth 20000 in
set_option maxHeartbeats 600000 in
theorem c_DL_span {l : Launch} {G : Gz} (hG : zI G) (σ : St) (seed : Int32) (many : Int32) (n : Int32) (q : Int32) (w : Int32) (a0 : ¬ many < 1) (bb0 : many ≤ 20) (a1 : ¬ n < 1) (bb1 : n ≤ 96) (a2 : ¬ q < 0) (bb2 : q ≤ 16) (a3 : ¬ w < 0) (bb3 : w ≤ 2) : MI l G y_DL_span prog_1_method_35_code 10 .int 8 [.ref (G.1 0), .int seed, .int many, .int n, .int q, .int w] σ (if w = 0 then (xsp σ seed n q (ct many)).1.1 else if w = 1 then (xsp σ seed n q (ct many)).1.2.1 else (xsp σ seed n q (ct many)).1.2.2) ((xsp σ seed n q (ct many)).2) := by
  refine MI.of hG (by decide) (Nat.le_of_ble_eq_true rfl) (fun X hx hq => ?_)
  show J l G X 10 σ 0 [(0, .ref (G.1 0)), (1, .int seed), (2, .int many), (3, .int n), (4, .int q), (5, .int w)] []
  refine j_aload_n hx d_DL_span_0 rfl 0 rfl ?_
  refine j_iload_n hx d_DL_span_1 rfl 2 rfl ?_
  refine j_iconst (v := 1) hx d_DL_span_2 (by decide) ?_
  refine j_bipush (v := 20) hx d_DL_span_3 (by decide) ?_
  refine j_callVv hx (c_DL_needWithin hG σ many 1 20 (by exact a0) (by exact bb0)) mo_DL_needWithin mv_DL_needWithin t_562 (by decide) rfl (by decide) (sh_0 _ _) rfl rfl (Nat.le_of_ble_eq_true rfl) d_DL_span_5 ?_
  refine j_aload_n hx d_DL_span_8 rfl 0 rfl ?_
  refine j_iload_n hx d_DL_span_9 rfl 3 rfl ?_
  refine j_iconst (v := 1) hx d_DL_span_10 (by decide) ?_
  refine j_bipush (v := 96) hx d_DL_span_11 (by decide) ?_
  refine j_callVv hx (c_DL_needWithin hG σ n 1 96 (by exact a1) (by exact bb1)) mo_DL_needWithin mv_DL_needWithin t_562 (by decide) rfl (by decide) (sh_0 _ _) rfl rfl (Nat.le_of_ble_eq_true rfl) d_DL_span_13 ?_
  refine j_aload_n hx d_DL_span_16 rfl 0 rfl ?_
  refine j_iload hx d_DL_span_17 4 rfl ?_
  refine j_iconst (v := 0) hx d_DL_span_19 (by decide) ?_
  refine j_bipush (v := 16) hx d_DL_span_20 (by decide) ?_
  refine j_callVv hx (c_DL_needWithin hG σ q 0 16 (by exact a2) (by exact bb2)) mo_DL_needWithin mv_DL_needWithin t_562 (by decide) rfl (by decide) (sh_0 _ _) rfl rfl (Nat.le_of_ble_eq_true rfl) d_DL_span_22 ?_
  refine j_aload_n hx d_DL_span_25 rfl 0 rfl ?_
  refine j_iload hx d_DL_span_26 5 rfl ?_
  refine j_iconst (v := 0) hx d_DL_span_28 (by decide) ?_
  refine j_iconst (v := 2) hx d_DL_span_29 (by decide) ?_
  refine j_callVv hx (c_DL_needWithin hG σ w 0 2 (by exact a3) (by exact bb3)) mo_DL_needWithin mv_DL_needWithin t_562 (by decide) rfl (by decide) (sh_0 _ _) rfl rfl (Nat.le_of_ble_eq_true rfl) d_DL_span_30 ?_
  refine j_sipush (v := 3840) hx d_DL_span_33 (by decide) ?_
  refine j_istore hx [(6, .int 3840), (0, .ref (G.1 0)), (1, .int seed), (2, .int many), (3, .int n), (4, .int q), (5, .int w)] d_DL_span_36 (by decide) rfl ?_
  refine j_iconst (v := 0) hx d_DL_span_38 (by decide) ?_
  refine j_istore hx [(7, .int 0), (6, .int 3840), (0, .ref (G.1 0)), (1, .int seed), (2, .int many), (3, .int n), (4, .int q), (5, .int w)] d_DL_span_39 (by decide) rfl ?_
  refine j_iconst (v := 0) hx d_DL_span_41 (by decide) ?_
  refine j_istore hx [(8, .int 0), (7, .int 0), (6, .int 3840), (0, .ref (G.1 0)), (1, .int seed), (2, .int many), (3, .int n), (4, .int q), (5, .int w)] d_DL_span_42 (by decide) rfl ?_
  refine j_iconst (v := 0) hx d_DL_span_44 (by decide) ?_
  refine j_istore hx [(9, .int 0), (8, .int 0), (7, .int 0), (6, .int 3840), (0, .ref (G.1 0)), (1, .int seed), (2, .int many), (3, .int n), (4, .int q), (5, .int w)] d_DL_span_45 (by decide) rfl ?_
  have hl47 : ∀ (N9 : Nat) (i : Nat), (i ≤ (ct many)) → (ct many) - i = N9 → J l G X 10 ((xsp σ seed n q i).2) 47 [(0, .ref (G.1 0)), (1, .int seed), (2, .int many), (3, .int n), (4, .int q), (5, .int w), (6, .int ((xsp σ seed n q i).1.1)), (7, .int ((xsp σ seed n q i).1.2.1)), (8, .int ((xsp σ seed n q i).1.2.2)), (9, .int (nI i))] [] := by
    intro N9
    induction N9 using Nat.strongRecOn with
    | _ N9 ih47 =>
      intro i hi_i hm47
      refine j_iload hx d_DL_span_47 9 rfl ?_
      refine j_iload_n hx d_DL_span_49 rfl 2 rfl ?_
      refine j_icmp_ge (tgt := 144) hx d_DL_span_50 (by decide) (fun zc50 => ?_) (fun zc50 => ?_)
      · skip
        obtain rfl := ct_end' hi_i zc50
        refine j_iload hx d_DL_span_144 5 rfl ?_
        refine j_if_ne (tgt := 152) hx d_DL_span_146 (by decide) (fun zc146 => ?_) (fun zc146 => ?_)
        · skip
          refine j_iload hx d_DL_span_152 5 rfl ?_
          refine j_iconst (v := 1) hx d_DL_span_154 (by decide) ?_
          refine j_icmp_ne (tgt := 163) hx d_DL_span_155 (by decide) (fun zc155 => ?_) (fun zc155 => ?_)
          · skip
            refine j_iload hx d_DL_span_163 8 rfl ?_
            exact j_iret hx hq rfl d_DL_span_165 (by first | (rw [if_neg zc146]; first | exact (if_pos zc155).symm | exact (if_neg zc155).symm) | fail) (by first | (rfl) | fail)
          · skip
            refine j_iload hx d_DL_span_158 7 rfl ?_
            refine j_goto (tgt := 165) hx d_DL_span_160 (by decide) ?_
            exact j_iret hx hq rfl d_DL_span_165 (by first | (rw [if_neg zc146]; first | exact (if_pos zc155).symm | exact (if_neg zc155).symm) | fail) (by first | (rfl) | fail)
        · skip
          refine j_iload hx d_DL_span_149 6 rfl ?_
          exact j_iret hx hq rfl d_DL_span_151 (by first | (exact (if_pos zc146).symm) | fail) (by first | (rfl) | fail)
      · skip
        have hlt47 := ct_go hi_i zc50
        refine j_aload_n hx d_DL_span_53 rfl 0 rfl ?_
        refine j_get hx ck_DL 11 (by decide) t_337 (by decide) (sh_0 _ _) rfl d_DL_span_54 ?_
        refine j_aload_n hx d_DL_span_57 rfl 0 rfl ?_
        refine j_get hx ck_DL 8 (by decide) t_334 (by decide) (sh_0 _ _) rfl d_DL_span_58 ?_
        refine j_iload_n hx d_DL_span_61 rfl 1 rfl ?_
        refine j_iload hx d_DL_span_62 9 rfl ?_
        refine j_iadd hx d_DL_span_64 ?_
        refine j_callVv hx (c_Winter_begin hG isNights_81 ((xsp σ seed n q i).2) (seed + (nI i))) mo_Winter_begin mv_Winter_begin t_1351 (by decide) rfl (by decide) (sh_98 _ _) rfl rfl (Nat.le_of_ble_eq_true rfl) d_DL_span_65 ?_
        refine j_aload_n hx d_DL_span_68 rfl 0 rfl ?_
        refine j_get hx ck_DL 11 (by decide) t_337 (by decide) (sh_0 _ _) rfl d_DL_span_69 ?_
        refine j_aload_n hx d_DL_span_72 rfl 0 rfl ?_
        refine j_get hx ck_DL 1 (by decide) t_327 (by decide) (sh_0 _ _) rfl d_DL_span_73 ?_
        refine j_aload_n hx d_DL_span_76 rfl 0 rfl ?_
        refine j_get hx ck_DL 3 (by decide) t_329 (by decide) (sh_0 _ _) rfl d_DL_span_77 ?_
        refine j_aload_n hx d_DL_span_80 rfl 0 rfl ?_
        refine j_get hx ck_DL 9 (by decide) t_335 (by decide) (sh_0 _ _) rfl d_DL_span_81 ?_
        refine j_iload_n hx d_DL_span_84 rfl 3 rfl ?_
        refine j_iload hx d_DL_span_85 4 rfl ?_
        refine j_callVv hx (c_Winter_live hG (wbS ((xsp σ seed n q i).2) 81 (seed + (nI i))) n q) mo_Winter_live mv_Winter_live t_1360 (by decide) rfl (by decide) (sh_98 _ _) rfl rfl (Nat.le_of_ble_eq_true rfl) d_DL_span_87 ?_
        obtain ⟨s9_1, eg_1⟩ : ∃ z : St, z = xwn (xsp σ seed n q i).2 (seed + nI i) n q := ⟨_, rfl⟩
        refine J.to (σ' := s9_1) (by rw [eg_1]; first | done | rfl) rfl ?_
        refine j_iload hx d_DL_span_90 6 rfl ?_
        refine j_aload_n hx d_DL_span_92 rfl 0 rfl ?_
        refine j_get hx ck_DL 11 (by decide) t_337 (by decide) (sh_0 _ _) rfl d_DL_span_93 ?_
        refine j_callVi hx (c_Winter_parish hG s9_1) mo_Winter_parish mv_Winter_parish t_1379 (by decide) rfl (by decide) (sh_98 _ _) rfl rfl (Nat.le_of_ble_eq_true rfl) d_DL_span_96 ?_
        refine j_mmin hx t_561 (by decide) (Nat.le_of_ble_eq_true rfl) d_DL_span_99 ?_
        refine j_istore hx [(6, .int (if (rg (s9_1 101) 29 3) < ((xsp σ seed n q i).1.1) then (rg (s9_1 101) 29 3) else ((xsp σ seed n q i).1.1))), (0, .ref (G.1 0)), (1, .int seed), (2, .int many), (3, .int n), (4, .int q), (5, .int w), (7, .int ((xsp σ seed n q i).1.2.1)), (8, .int ((xsp σ seed n q i).1.2.2)), (9, .int (nI i))] d_DL_span_102 (by decide) rfl ?_
        refine j_iload hx d_DL_span_104 7 rfl ?_
        refine j_aload_n hx d_DL_span_106 rfl 1 rfl ?_
        refine j_get hx ck_DL 11 (by decide) t_337 (by decide) (sh_0 _ _) rfl d_DL_span_107 ?_
        refine j_callVi hx (c_Winter_parish hG s9_1) mo_Winter_parish mv_Winter_parish t_1379 (by decide) rfl (by decide) (sh_98 _ _) rfl rfl (Nat.le_of_ble_eq_true rfl) d_DL_span_110 ?_
        refine j_mmax hx t_1398 (by decide) (Nat.le_of_ble_eq_true rfl) d_DL_span_113 ?_
        refine j_istore hx [(7, .int (if ((xsp σ seed n q i).1.2.1) < (rg (s9_1 101) 29 3) then (rg (s9_1 101) 29 3) else ((xsp σ seed n q i).1.2.1))), (6, .int (if (rg (s9_1 101) 29 3) < ((xsp σ seed n q i).1.1) then (rg (s9_1 101) 29 3) else ((xsp σ seed n q i).1.1))), (0, .ref (G.1 0)), (1, .int seed), (2, .int many), (3, .int n), (4, .int q), (5, .int w), (8, .int ((xsp σ seed n q i).1.2.2)), (9, .int (nI i))] d_DL_span_116 (by decide) rfl ?_
        refine j_iload hx d_DL_span_118 8 rfl ?_
        refine j_aload_n hx d_DL_span_120 rfl 2 rfl ?_
        refine j_get hx ck_DL 11 (by decide) t_337 (by decide) (sh_0 _ _) rfl d_DL_span_121 ?_
        refine j_callVi hx (c_Winter_struck hG s9_1) mo_Winter_struck mv_Winter_struck t_1375 (by decide) rfl (by decide) (sh_98 _ _) rfl rfl (Nat.le_of_ble_eq_true rfl) d_DL_span_124 ?_
        refine j_if_ne (tgt := 134) hx d_DL_span_127 (by decide) (fun zc127 => ?_) (fun zc127 => ?_)
        · skip
          refine j_iconst (v := 0) hx d_DL_span_134 (by decide) ?_
          refine j_iadd hx d_DL_span_135 ?_
          refine j_istore hx [(8, .int (((xsp σ seed n q i).1.2.2) + 0)), (7, .int (if ((xsp σ seed n q i).1.2.1) < (rg (s9_1 101) 29 3) then (rg (s9_1 101) 29 3) else ((xsp σ seed n q i).1.2.1))), (6, .int (if (rg (s9_1 101) 29 3) < ((xsp σ seed n q i).1.1) then (rg (s9_1 101) 29 3) else ((xsp σ seed n q i).1.1))), (0, .ref (G.1 0)), (1, .int seed), (2, .int many), (3, .int n), (4, .int q), (5, .int w), (9, .int (nI i))] d_DL_span_136 (by decide) rfl ?_
          refine j_iinc hx [(9, .int ((nI i) + 1)), (8, .int (((xsp σ seed n q i).1.2.2) + 0)), (7, .int (if ((xsp σ seed n q i).1.2.1) < (rg (s9_1 101) 29 3) then (rg (s9_1 101) 29 3) else ((xsp σ seed n q i).1.2.1))), (6, .int (if (rg (s9_1 101) 29 3) < ((xsp σ seed n q i).1.1) then (rg (s9_1 101) 29 3) else ((xsp σ seed n q i).1.1))), (0, .ref (G.1 0)), (1, .int seed), (2, .int many), (3, .int n), (4, .int q), (5, .int w)] d_DL_span_138 9 rfl rfl (by decide) rfl ?_
          refine j_goto (tgt := 47) hx d_DL_span_141 (by decide) ?_
          refine J.lsub (ls' := [(0, .ref (G.1 0)), (1, .int seed), (2, .int many), (3, .int n), (4, .int q), (5, .int w), (6, .int (if (rg (s9_1 101) 29 3) < ((xsp σ seed n q i).1.1) then (rg (s9_1 101) 29 3) else ((xsp σ seed n q i).1.1))), (7, .int (if ((xsp σ seed n q i).1.2.1) < (rg (s9_1 101) 29 3) then (rg (s9_1 101) 29 3) else ((xsp σ seed n q i).1.2.1))), (8, .int (((xsp σ seed n q i).1.2.2) + 0)), (9, .int ((nI i) + 1))]) [4, 5, 6, 7, 8, 9, 3, 2, 1, 0] rfl ?_
          refine J.to ?_ ?_ (ih47 _ ?_ (i + 1) hlt47 rfl)
          · first | (rw [xsp_s eg_1]) | fail
          · first | (simp only [nI_s]; rw [xsp_s eg_1]; first | (rw [if_pos zc127]; done) | (rw [if_neg zc127]; done) | (rw [if_pos zc127]; rfl) | (rw [if_neg zc127]; rfl)) | fail
          · first | (omega) | fail
        · skip
          refine j_iconst (v := 1) hx d_DL_span_130 (by decide) ?_
          refine j_goto (tgt := 135) hx d_DL_span_131 (by decide) ?_
          refine j_iadd hx d_DL_span_135 ?_
          refine j_istore hx [(8, .int (((xsp σ seed n q i).1.2.2) + 1)), (7, .int (if ((xsp σ seed n q i).1.2.1) < (rg (s9_1 101) 29 3) then (rg (s9_1 101) 29 3) else ((xsp σ seed n q i).1.2.1))), (6, .int (if (rg (s9_1 101) 29 3) < ((xsp σ seed n q i).1.1) then (rg (s9_1 101) 29 3) else ((xsp σ seed n q i).1.1))), (0, .ref (G.1 0)), (1, .int seed), (2, .int many), (3, .int n), (4, .int q), (5, .int w), (9, .int (nI i))] d_DL_span_136 (by decide) rfl ?_
          refine j_iinc hx [(9, .int ((nI i) + 1)), (8, .int (((xsp σ seed n q i).1.2.2) + 1)), (7, .int (if ((xsp σ seed n q i).1.2.1) < (rg (s9_1 101) 29 3) then (rg (s9_1 101) 29 3) else ((xsp σ seed n q i).1.2.1))), (6, .int (if (rg (s9_1 101) 29 3) < ((xsp σ seed n q i).1.1) then (rg (s9_1 101) 29 3) else ((xsp σ seed n q i).1.1))), (0, .ref (G.1 0)), (1, .int seed), (2, .int many), (3, .int n), (4, .int q), (5, .int w)] d_DL_span_138 9 rfl rfl (by decide) rfl ?_
          refine j_goto (tgt := 47) hx d_DL_span_141 (by decide) ?_
          refine J.lsub (ls' := [(0, .ref (G.1 0)), (1, .int seed), (2, .int many), (3, .int n), (4, .int q), (5, .int w), (6, .int (if (rg (s9_1 101) 29 3) < ((xsp σ seed n q i).1.1) then (rg (s9_1 101) 29 3) else ((xsp σ seed n q i).1.1))), (7, .int (if ((xsp σ seed n q i).1.2.1) < (rg (s9_1 101) 29 3) then (rg (s9_1 101) 29 3) else ((xsp σ seed n q i).1.2.1))), (8, .int (((xsp σ seed n q i).1.2.2) + 1)), (9, .int ((nI i) + 1))]) [4, 5, 6, 7, 8, 9, 3, 2, 1, 0] rfl ?_
          refine J.to ?_ ?_ (ih47 _ ?_ (i + 1) hlt47 rfl)
          · first | (rw [xsp_s eg_1]) | fail
          · first | (simp only [nI_s]; rw [xsp_s eg_1]; first | (rw [if_pos zc127]; done) | (rw [if_neg zc127]; done) | (rw [if_pos zc127]; rfl) | (rw [if_neg zc127]; rfl)) | fail
          · first | (omega) | fail
  refine J.lsub (ls' := [(0, .ref (G.1 0)), (1, .int seed), (2, .int many), (3, .int n), (4, .int q), (5, .int w), (6, .int 3840), (7, .int 0), (8, .int 0), (9, .int 0)]) [4, 5, 6, 7, 8, 9, 3, 2, 1, 0] rfl ?_
  refine J.to ?_ ?_ (hl47 _ 0 (Nat.zero_le _) rfl)
  · first | (rfl) | fail
  · first | (rfl) | fail

set_option maxRecDepth 20000 in
set_option maxHeartbeats 600000 in
theorem c_DL_would {l : Launch} {G : Gz} (hG : zI G) (σ : St) (s : Int32) (seen : Int32) (dark : Int32) (m : Int32) (c : Int32) (night : Int32) (fog : Int32) (a0 : ¬ s < 0) (bb0 : s < rg (σ 6) 6 3) (a1 : ¬ seen < 0) (bb1 : seen ≤ 20) (a2 : ¬ dark < 0) (bb2 : dark ≤ 20) (a3 : ¬ m < 0) (bb3 : m ≤ 11) (a4 : ¬ c < 0) (bb4 : c ≤ 11) (a5 : ¬ night < 0) (bb5 : night ≤ 500) (a6 : ¬ fog < 0) (bb6 : fog ≤ 1) : MI l G y_DL_would prog_1_method_15_code 8 .boolean 5 [.ref (G.1 0), .int s, .int seen, .int dark, .int m, .int c, .int night, .int fog] σ (b2 (lwP (tls (tln σ night fog) s seen dark m c))) (lwS (tls (tln σ night fog) s seen dark m c)) := by
  refine MI.of hG (by decide) (Nat.le_of_ble_eq_true rfl) (fun X hx hq => ?_)
  show J l G X 8 σ 0 [(0, .ref (G.1 0)), (1, .int s), (2, .int seen), (3, .int dark), (4, .int m), (5, .int c), (6, .int night), (7, .int fog)] []
  refine j_aload_n hx d_DL_would_0 rfl 0 rfl ?_
  refine j_iconst (v := 3) hx d_DL_would_1 (by decide) ?_
  refine j_iload_n hx d_DL_would_2 rfl 1 rfl ?_
  refine j_callVv hx (c_DL_needThere hG σ 3 s (by exact a0) (by exact bb0)) mo_DL_needThere mv_DL_needThere t_984 (by decide) rfl (by decide) (sh_0 _ _) rfl rfl (Nat.le_of_ble_eq_true rfl) d_DL_would_3 ?_
  refine j_aload_n hx d_DL_would_6 rfl 0 rfl ?_
  refine j_iload_n hx d_DL_would_7 rfl 2 rfl ?_
  refine j_iconst (v := 0) hx d_DL_would_8 (by decide) ?_
  refine j_bipush (v := 20) hx d_DL_would_9 (by decide) ?_
  refine j_callVv hx (c_DL_needWithin hG σ seen 0 20 (by exact a1) (by exact bb1)) mo_DL_needWithin mv_DL_needWithin t_562 (by decide) rfl (by decide) (sh_0 _ _) rfl rfl (Nat.le_of_ble_eq_true rfl) d_DL_would_11 ?_
  refine j_aload_n hx d_DL_would_14 rfl 0 rfl ?_
  refine j_iload_n hx d_DL_would_15 rfl 3 rfl ?_
  refine j_iconst (v := 0) hx d_DL_would_16 (by decide) ?_
  refine j_bipush (v := 20) hx d_DL_would_17 (by decide) ?_
  refine j_callVv hx (c_DL_needWithin hG σ dark 0 20 (by exact a2) (by exact bb2)) mo_DL_needWithin mv_DL_needWithin t_562 (by decide) rfl (by decide) (sh_0 _ _) rfl rfl (Nat.le_of_ble_eq_true rfl) d_DL_would_19 ?_
  refine j_aload_n hx d_DL_would_22 rfl 0 rfl ?_
  refine j_iload hx d_DL_would_23 4 rfl ?_
  refine j_iconst (v := 0) hx d_DL_would_25 (by decide) ?_
  refine j_bipush (v := 11) hx d_DL_would_26 (by decide) ?_
  refine j_callVv hx (c_DL_needWithin hG σ m 0 11 (by exact a3) (by exact bb3)) mo_DL_needWithin mv_DL_needWithin t_562 (by decide) rfl (by decide) (sh_0 _ _) rfl rfl (Nat.le_of_ble_eq_true rfl) d_DL_would_28 ?_
  refine j_aload_n hx d_DL_would_31 rfl 0 rfl ?_
  refine j_iload hx d_DL_would_32 5 rfl ?_
  refine j_iconst (v := 0) hx d_DL_would_34 (by decide) ?_
  refine j_bipush (v := 11) hx d_DL_would_35 (by decide) ?_
  refine j_callVv hx (c_DL_needWithin hG σ c 0 11 (by exact a4) (by exact bb4)) mo_DL_needWithin mv_DL_needWithin t_562 (by decide) rfl (by decide) (sh_0 _ _) rfl rfl (Nat.le_of_ble_eq_true rfl) d_DL_would_37 ?_
  refine j_aload_n hx d_DL_would_40 rfl 0 rfl ?_
  refine j_iload hx d_DL_would_41 6 rfl ?_
  refine j_iconst (v := 0) hx d_DL_would_43 (by decide) ?_
  refine j_sipush (v := 500) hx d_DL_would_44 (by decide) ?_
  refine j_callVv hx (c_DL_needWithin hG σ night 0 500 (by exact a5) (by exact bb5)) mo_DL_needWithin mv_DL_needWithin t_562 (by decide) rfl (by decide) (sh_0 _ _) rfl rfl (Nat.le_of_ble_eq_true rfl) d_DL_would_47 ?_
  refine j_aload_n hx d_DL_would_50 rfl 0 rfl ?_
  refine j_iload hx d_DL_would_51 7 rfl ?_
  refine j_iconst (v := 0) hx d_DL_would_53 (by decide) ?_
  refine j_iconst (v := 1) hx d_DL_would_54 (by decide) ?_
  refine j_callVv hx (c_DL_needWithin hG σ fog 0 1 (by exact a6) (by exact bb6)) mo_DL_needWithin mv_DL_needWithin t_562 (by decide) rfl (by decide) (sh_0 _ _) rfl rfl (Nat.le_of_ble_eq_true rfl) d_DL_would_55 ?_
  refine j_aload_n hx d_DL_would_58 rfl 0 rfl ?_
  refine j_get hx ck_DL 3 (by decide) t_329 (by decide) (sh_0 _ _) rfl d_DL_would_59 ?_
  refine j_iload hx d_DL_would_62 6 rfl ?_
  refine j_iload hx d_DL_would_64 7 rfl ?_
  refine j_callVv hx (c_Law_tellNight hG σ night fog) mo_Law_tellNight mv_Law_tellNight t_1060 (by decide) rfl (by decide) (sh_50 _ _) rfl rfl (Nat.le_of_ble_eq_true rfl) d_DL_would_66 ?_
  refine j_aload_n hx d_DL_would_69 rfl 0 rfl ?_
  refine j_get hx ck_DL 3 (by decide) t_329 (by decide) (sh_0 _ _) rfl d_DL_would_70 ?_
  refine j_aload_n hx d_DL_would_73 rfl 0 rfl ?_
  refine j_get hx ck_DL 1 (by decide) t_327 (by decide) (sh_0 _ _) rfl d_DL_would_74 ?_
  refine j_iload_n hx d_DL_would_77 rfl 1 rfl ?_
  refine j_iload_n hx d_DL_would_78 rfl 2 rfl ?_
  refine j_iload_n hx d_DL_would_79 rfl 3 rfl ?_
  refine j_iload hx d_DL_would_80 4 rfl ?_
  refine j_iload hx d_DL_would_82 5 rfl ?_
  refine j_callVv hx (c_Law_tellShip hG (tln σ night fog) s seen dark m c) mo_Law_tellShip mv_Law_tellShip t_1061 (by decide) rfl (by decide) (sh_50 _ _) rfl rfl (Nat.le_of_ble_eq_true rfl) d_DL_would_84 ?_
  refine j_aload_n hx d_DL_would_87 rfl 0 rfl ?_
  refine j_get hx ck_DL 3 (by decide) t_329 (by decide) (sh_0 _ _) rfl d_DL_would_88 ?_
  refine j_callVi hx (c_Law_steersIn hG (tls (tln σ night fog) s seen dark m c)) mo_Law_steersIn mv_Law_steersIn t_1062 (by decide) rfl (by decide) (sh_50 _ _) rfl rfl (Nat.le_of_ble_eq_true rfl) d_DL_would_91 ?_
  exact j_iret hx hq (nz_b2 _) d_DL_would_94 (by first | (rfl) | fail) (by first | (rfl) | fail)

set_option maxRecDepth 20000 in
set_option maxHeartbeats 600000 in
theorem c_DL_wink {l : Launch} {G : Gz} (hG : zI G) (σ : St) (a : Int32) (p : Int32) (q : Int32) (l9 : Int32) (n : Int32) (part : Int32) (a0 : ¬ a < 0) (bb0 : a ≤ 16) (a1 : ¬ p < 0) (bb1 : p ≤ 16) (a2 : ¬ q < 0) (bb2 : q ≤ 16) (a3 : ¬ n < 0) (bb3 : n ≤ 6) (a4 : ¬ l9 < 0) (bb4 : l9 ≤ n) (a5 : ¬ part < 0) (bb5 : part ≤ 1) : ML l G y_DL_wink prog_1_method_24_code 13 .long 3 [.ref (G.1 0), .int a, .int p, .int q, .int l9, .int n, .int part] σ (xwi a p q l9 n part) σ := by
  refine ML.of hG (by decide) (Nat.le_of_ble_eq_true rfl) (fun X hx hq => ?_)
  show J l G X 13 σ 0 [(0, .ref (G.1 0)), (1, .int a), (2, .int p), (3, .int q), (4, .int l9), (5, .int n), (6, .int part)] []
  refine j_aload_n hx d_DL_wink_0 rfl 0 rfl ?_
  refine j_iload_n hx d_DL_wink_1 rfl 1 rfl ?_
  refine j_iconst (v := 0) hx d_DL_wink_2 (by decide) ?_
  refine j_bipush (v := 16) hx d_DL_wink_3 (by decide) ?_
  refine j_callVv hx (c_DL_needWithin hG σ a 0 16 (by exact a0) (by exact bb0)) mo_DL_needWithin mv_DL_needWithin t_562 (by decide) rfl (by decide) (sh_0 _ _) rfl rfl (Nat.le_of_ble_eq_true rfl) d_DL_wink_5 ?_
  refine j_aload_n hx d_DL_wink_8 rfl 0 rfl ?_
  refine j_iload_n hx d_DL_wink_9 rfl 2 rfl ?_
  refine j_iconst (v := 0) hx d_DL_wink_10 (by decide) ?_
  refine j_bipush (v := 16) hx d_DL_wink_11 (by decide) ?_
  refine j_callVv hx (c_DL_needWithin hG σ p 0 16 (by exact a1) (by exact bb1)) mo_DL_needWithin mv_DL_needWithin t_562 (by decide) rfl (by decide) (sh_0 _ _) rfl rfl (Nat.le_of_ble_eq_true rfl) d_DL_wink_13 ?_
  refine j_aload_n hx d_DL_wink_16 rfl 0 rfl ?_
  refine j_iload_n hx d_DL_wink_17 rfl 3 rfl ?_
  refine j_iconst (v := 0) hx d_DL_wink_18 (by decide) ?_
  refine j_bipush (v := 16) hx d_DL_wink_19 (by decide) ?_
  refine j_callVv hx (c_DL_needWithin hG σ q 0 16 (by exact a2) (by exact bb2)) mo_DL_needWithin mv_DL_needWithin t_562 (by decide) rfl (by decide) (sh_0 _ _) rfl rfl (Nat.le_of_ble_eq_true rfl) d_DL_wink_21 ?_
  refine j_aload_n hx d_DL_wink_24 rfl 0 rfl ?_
  refine j_iload hx d_DL_wink_25 5 rfl ?_
  refine j_iconst (v := 0) hx d_DL_wink_27 (by decide) ?_
  refine j_bipush (v := 6) hx d_DL_wink_28 (by decide) ?_
  refine j_callVv hx (c_DL_needWithin hG σ n 0 6 (by exact a3) (by exact bb3)) mo_DL_needWithin mv_DL_needWithin t_562 (by decide) rfl (by decide) (sh_0 _ _) rfl rfl (Nat.le_of_ble_eq_true rfl) d_DL_wink_30 ?_
  refine j_aload_n hx d_DL_wink_33 rfl 0 rfl ?_
  refine j_iload hx d_DL_wink_34 4 rfl ?_
  refine j_iconst (v := 0) hx d_DL_wink_36 (by decide) ?_
  refine j_iload hx d_DL_wink_37 5 rfl ?_
  refine j_callVv hx (c_DL_needWithin hG σ l9 0 n (by exact a4) (by exact bb4)) mo_DL_needWithin mv_DL_needWithin t_562 (by decide) rfl (by decide) (sh_0 _ _) rfl rfl (Nat.le_of_ble_eq_true rfl) d_DL_wink_39 ?_
  refine j_aload_n hx d_DL_wink_42 rfl 0 rfl ?_
  refine j_iload hx d_DL_wink_43 6 rfl ?_
  refine j_iconst (v := 0) hx d_DL_wink_45 (by decide) ?_
  refine j_iconst (v := 1) hx d_DL_wink_46 (by decide) ?_
  refine j_callVv hx (c_DL_needWithin hG σ part 0 1 (by exact a5) (by exact bb5)) mo_DL_needWithin mv_DL_needWithin t_562 (by decide) rfl (by decide) (sh_0 _ _) rfl rfl (Nat.le_of_ble_eq_true rfl) d_DL_wink_47 ?_
  refine j_iload_n hx d_DL_wink_50 rfl 1 rfl ?_
  refine j_i2l hx d_DL_wink_51 rfl ?_
  refine j_iload_n hx d_DL_wink_52 rfl 2 rfl ?_
  refine j_iload hx d_DL_wink_53 4 rfl ?_
  refine j_callSl hx (c_DL_power hG σ p l9) mo_DL_power t_1227 t_1226 (by decide) rfl rfl (Nat.le_of_ble_eq_true rfl) d_DL_wink_55 ?_
  refine j_lmul hx d_DL_wink_58 ?_
  refine j_bipush (v := 16) hx d_DL_wink_59 (by decide) ?_
  refine j_iload_n hx d_DL_wink_61 rfl 2 rfl ?_
  refine j_isub hx d_DL_wink_62 ?_
  refine j_iload hx d_DL_wink_63 5 rfl ?_
  refine j_iload hx d_DL_wink_65 4 rfl ?_
  refine j_isub hx d_DL_wink_67 ?_
  refine j_callSl hx (c_DL_power hG σ (16 - p) (n - l9)) mo_DL_power t_1227 t_1226 (by decide) rfl rfl (Nat.le_of_ble_eq_true rfl) d_DL_wink_68 ?_
  refine j_lmul hx d_DL_wink_71 ?_
  refine j_lstore hx [(7, .long ((a.toInt64 * (pwr p (ct l9))) * (pwr (16 - p) (ct (n - l9))))), (0, .ref (G.1 0)), (1, .int a), (2, .int p), (3, .int q), (4, .int l9), (5, .int n), (6, .int part)] d_DL_wink_72 (by decide) rfl ?_
  refine j_lload hx d_DL_wink_74 0 rfl ?_
  refine j_bipush (v := 16) hx d_DL_wink_76 (by decide) ?_
  refine j_iload_n hx d_DL_wink_78 rfl 2 rfl ?_
  refine j_isub hx d_DL_wink_79 ?_
  refine j_i2l hx d_DL_wink_80 rfl ?_
  refine j_iload_n hx d_DL_wink_81 rfl 4 rfl ?_
  refine j_iload hx d_DL_wink_82 5 rfl ?_
  refine j_callSl hx (c_DL_power hG σ q l9) mo_DL_power t_1227 t_1226 (by decide) rfl rfl (Nat.le_of_ble_eq_true rfl) d_DL_wink_84 ?_
  refine j_lmul hx d_DL_wink_87 ?_
  refine j_bipush (v := 16) hx d_DL_wink_88 (by decide) ?_
  refine j_iload_n hx d_DL_wink_90 rfl 4 rfl ?_
  refine j_isub hx d_DL_wink_91 ?_
  refine j_iload hx d_DL_wink_92 6 rfl ?_
  refine j_iload hx d_DL_wink_94 5 rfl ?_
  refine j_isub hx d_DL_wink_96 ?_
  refine j_callSl hx (c_DL_power hG σ (16 - q) (n - l9)) mo_DL_power t_1227 t_1226 (by decide) rfl rfl (Nat.le_of_ble_eq_true rfl) d_DL_wink_97 ?_
  refine j_lmul hx d_DL_wink_100 ?_
  refine j_ladd hx d_DL_wink_101 ?_
  refine j_lstore hx [(9, .long (((a.toInt64 * (pwr p (ct l9))) * (pwr (16 - p) (ct (n - l9)))) + ((((16 - a).toInt64) * (pwr q (ct l9))) * (pwr (16 - q) (ct (n - l9)))))), (7, .long ((a.toInt64 * (pwr p (ct l9))) * (pwr (16 - p) (ct (n - l9))))), (0, .ref (G.1 0)), (1, .int a), (2, .int p), (3, .int q), (4, .int l9), (5, .int n), (6, .int part)] d_DL_wink_102 (by decide) rfl ?_
  refine j_lload hx d_DL_wink_104 1 rfl ?_
  refine j_lconst (v := 0) hx d_DL_wink_106 (by decide) ?_
  refine j_lcmp hx d_DL_wink_107 ?_
  refine j_if_ne (tgt := 115) hx d_DL_wink_108 (by decide) (fun zc108 => ?_) (fun zc108 => ?_)
  · skip
    refine j_lload hx d_DL_wink_115 0 rfl ?_
    refine j_lload hx d_DL_wink_117 1 rfl ?_
    refine j_callSl hx (c_DL_commonDivisor hG σ (((a.toInt64 * (pwr p (ct l9))) * (pwr (16 - p) (ct (n - l9)))) + ((((16 - a).toInt64) * (pwr q (ct l9))) * (pwr (16 - q) (ct (n - l9))))) ((a.toInt64 * (pwr p (ct l9))) * (pwr (16 - p) (ct (n - l9))))) mo_DL_commonDivisor t_1230 t_1229 (by decide) rfl rfl (Nat.le_of_ble_eq_true rfl) d_DL_wink_119 ?_
    refine j_lstore hx [(11, .long (gcl 100 (((a.toInt64 * (pwr p (ct l9))) * (pwr (16 - p) (ct (n - l9)))) + ((((16 - a).toInt64) * (pwr q (ct l9))) * (pwr (16 - q) (ct (n - l9))))) ((a.toInt64 * (pwr p (ct l9))) * (pwr (16 - p) (ct (n - l9)))))), (9, .long (((a.toInt64 * (pwr p (ct l9))) * (pwr (16 - p) (ct (n - l9)))) + ((((16 - a).toInt64) * (pwr q (ct l9))) * (pwr (16 - q) (ct (n - l9)))))), (7, .long ((a.toInt64 * (pwr p (ct l9))) * (pwr (16 - p) (ct (n - l9))))), (0, .ref (G.1 0)), (1, .int a), (2, .int p), (3, .int q), (4, .int l9), (5, .int n), (6, .int part)] d_DL_wink_122 (by decide) rfl ?_
    refine j_lload hx d_DL_wink_124 0 rfl ?_
    refine j_lconst (v := 0) hx d_DL_wink_126 (by decide) ?_
    refine j_lcmp hx d_DL_wink_127 ?_
    refine j_if_ne (tgt := 135) hx d_DL_wink_128 (by decide) (fun zc128 => ?_) (fun zc128 => ?_)
    · skip
      refine j_iload hx d_DL_wink_135 9 rfl ?_
      refine j_if_ne (tgt := 148) hx d_DL_wink_137 (by decide) (fun zc137 => ?_) (fun zc137 => ?_)
      · skip
        refine j_lload hx d_DL_wink_148 1 rfl ?_
        refine j_lload hx d_DL_wink_150 0 rfl ?_
        refine j_ldiv hx d_DL_wink_152 (by exact fun z => zc128 ((lg_cmp_eq _ _).mpr z)) ?_
        exact j_lret hx hq d_DL_wink_153 (by first | (first | (show _ = xwi a p q l9 n part; unfold xwi; rw [if_pos (show xkU a p l9 n = 0 from (lg_cmp_eq _ _).mp zc108)]; done) | (unfold xwi; rw [if_neg (show ¬ xkU a p l9 n = 0 from fun u => zc108 ((lg_cmp_eq _ _).mpr u)), if_pos (show gcl 100 (xkL a p q l9 n) (xkU a p l9 n) = 0 from (lg_cmp_eq _ _).mp zc128)]; done) | (unfold xwi; rw [if_neg (show ¬ xkU a p l9 n = 0 from fun u => zc108 ((lg_cmp_eq _ _).mpr u)), if_neg (show ¬ gcl 100 (xkL a p q l9 n) (xkU a p l9 n) = 0 from fun u => zc128 ((lg_cmp_eq _ _).mpr u)), if_pos zc137]; rfl) | (unfold xwi; rw [if_neg (show ¬ xkU a p l9 n = 0 from fun u => zc108 ((lg_cmp_eq _ _).mpr u)), if_neg (show ¬ gcl 100 (xkL a p q l9 n) (xkU a p l9 n) = 0 from fun u => zc128 ((lg_cmp_eq _ _).mpr u)), if_neg zc137]; rfl)) | fail) (by first | (rfl) | fail)
      · skip
        refine j_lload hx d_DL_wink_140 2 rfl ?_
        refine j_lload hx d_DL_wink_142 0 rfl ?_
        refine j_ldiv hx d_DL_wink_144 (by exact fun z => zc128 ((lg_cmp_eq _ _).mpr z)) ?_
        refine j_goto (tgt := 153) hx d_DL_wink_145 (by decide) ?_
        exact j_lret hx hq d_DL_wink_153 (by first | (first | (show _ = xwi a p q l9 n part; unfold xwi; rw [if_pos (show xkU a p l9 n = 0 from (lg_cmp_eq _ _).mp zc108)]; done) | (unfold xwi; rw [if_neg (show ¬ xkU a p l9 n = 0 from fun u => zc108 ((lg_cmp_eq _ _).mpr u)), if_pos (show gcl 100 (xkL a p q l9 n) (xkU a p l9 n) = 0 from (lg_cmp_eq _ _).mp zc128)]; done) | (unfold xwi; rw [if_neg (show ¬ xkU a p l9 n = 0 from fun u => zc108 ((lg_cmp_eq _ _).mpr u)), if_neg (show ¬ gcl 100 (xkL a p q l9 n) (xkU a p l9 n) = 0 from fun u => zc128 ((lg_cmp_eq _ _).mpr u)), if_pos zc137]; rfl) | (unfold xwi; rw [if_neg (show ¬ xkU a p l9 n = 0 from fun u => zc108 ((lg_cmp_eq _ _).mpr u)), if_neg (show ¬ gcl 100 (xkL a p q l9 n) (xkU a p l9 n) = 0 from fun u => zc128 ((lg_cmp_eq _ _).mpr u)), if_neg zc137]; rfl)) | fail) (by first | (rfl) | fail)
    · skip
      refine j_iload hx d_DL_wink_131 9 rfl ?_
      refine j_i2l hx d_DL_wink_133 rfl ?_
      exact j_lret hx hq d_DL_wink_134 (by first | (first | (show _ = xwi a p q l9 n part; unfold xwi; rw [if_pos (show xkU a p l9 n = 0 from (lg_cmp_eq _ _).mp zc108)]; done) | (unfold xwi; rw [if_neg (show ¬ xkU a p l9 n = 0 from fun u => zc108 ((lg_cmp_eq _ _).mpr u)), if_pos (show gcl 100 (xkL a p q l9 n) (xkU a p l9 n) = 0 from (lg_cmp_eq _ _).mp zc128)]; done) | (unfold xwi; rw [if_neg (show ¬ xkU a p l9 n = 0 from fun u => zc108 ((lg_cmp_eq _ _).mpr u)), if_neg (show ¬ gcl 100 (xkL a p q l9 n) (xkU a p l9 n) = 0 from fun u => zc128 ((lg_cmp_eq _ _).mpr u)), if_pos zc137]; rfl) | (unfold xwi; rw [if_neg (show ¬ xkU a p l9 n = 0 from fun u => zc108 ((lg_cmp_eq _ _).mpr u)), if_neg (show ¬ gcl 100 (xkL a p q l9 n) (xkU a p l9 n) = 0 from fun u => zc128 ((lg_cmp_eq _ _).mpr u)), if_neg zc137]; rfl)) | fail) (by first | (rfl) | fail)
  · skip
    refine j_iload hx d_DL_wink_111 8 rfl ?_
    refine j_i2l hx d_DL_wink_113 rfl ?_
    exact j_lret hx hq d_DL_wink_114 (by first | (first | (show _ = xwi a p q l9 n part; unfold xwi; rw [if_pos (show xkU a p l9 n = 0 from (lg_cmp_eq _ _).mp zc108)]; done) | (unfold xwi; rw [if_neg (show ¬ xkU a p l9 n = 0 from fun u => zc108 ((lg_cmp_eq _ _).mpr u)), if_pos (show gcl 100 (xkL a p q l9 n) (xkU a p l9 n) = 0 from (lg_cmp_eq _ _).mp zc128)]; done) | (unfold xwi; rw [if_neg (show ¬ xkU a p l9 n = 0 from fun u => zc108 ((lg_cmp_eq _ _).mpr u)), if_neg (show ¬ gcl 100 (xkL a p q l9 n) (xkU a p l9 n) = 0 from fun u => zc128 ((lg_cmp_eq _ _).mpr u)), if_pos zc137]; rfl) | (unfold xwi; rw [if_neg (show ¬ xkU a p l9 n = 0 from fun u => zc108 ((lg_cmp_eq _ _).mpr u)), if_neg (show ¬ gcl 100 (xkL a p q l9 n) (xkU a p l9 n) = 0 from fun u => zc128 ((lg_cmp_eq _ _).mpr u)), if_neg zc137]; rfl)) | fail) (by first | (rfl) | fail)
