/-! ===== winter (98: seed 1, foggy 2; lived 99) ===== -/
def fgS (s : St) (o : Nat) : St := if rg (s (o + 2)) 29 1 = 1 then s else rs s (o + 1) 29 1 1
def nnS (s : St) (o : Nat) : St := rs (rs (nad s o 0 1) (o + 1) 29 1 0) (o + 1) 29 7 0
def wb1 (s : St) (o : Nat) : St := cpy s 100 29 (o + 1) 29 0 0 (Int32.ofNat 29)
def fwS (s : St) : St := rs (rs (rs (rs s 100 29 2 0) 100 29 3 0) 100 29 4 0) 100 29 5 0
def wbS (s : St) (o : Nat) (seed : Int32) : St := up (up (fwS (wb1 s o)) 98 1 seed) 98 2 0
def drS (s : St) : St := up s 98 1 (s 98 1 * 1103515245 + 12345)
def drV (s : St) (b : Int32) : Int32 := lft (((drS s 98 1).toUInt32 >>> ((16 : Int32).toUInt32 &&& Int32.toUInt32 31)).toInt32 &&& 32767) b
def wl1 (s : St) (q : Int32) : St := if q ≤ drV s 16 then drS s else fgS (drS s) 99
def wl2 (s : St) : St := up s 98 2 (s 98 2 + rg (s 101) 29 1)
def psP (s : St) (o : Nat) (ship : Int32) : St := hps (psk (pbS s o) ship).2 o ship (psk (pbS s o) ship).1
def wl3 (s : St) (ships : Int32) : St := if ships ≤ 0 then s else psP (drS s) 99 (drV s ships)
def wlB (ships q : Int32) (s : St) : St := nnS (wl3 (wl2 (wl1 s q)) ships) 99
def wsh (s : St) : Int32 := if cM s 0 = 0 then 0 else cM s 3
def wlv (s : St) (ships q : Int32) (n : Nat) : St := it (fun _ s => wlB ships q s) s n
/-! ===== history (102: works 3, images 4) ===== -/
def kwS (s : St) : St := up (cpy s 103 464 82 29 0 (s 102 3 * 29) 29) 102 3 ((cpy s 103 464 82 29 0 (s 102 3 * 29) 29) 102 3 + 1)
def uwS (s : St) : St := cpy (up s 102 3 (s 102 3 - 1)) 82 29 103 464 ((up s 102 3 (s 102 3 - 1)) 102 3 * 29) 0 29
def ki1 (s : St) : St := cpy s 105 1479 103 464 0 (s 102 4 * 493) 464
def ki2 (s : St) (a : Int32) : St := cpy s 105 1479 82 29 0 (a + 464) 29
def ki3 (s : St) : St := rs s 107 3 (s 102 4) (s 102 3)
def kiS (s : St) : St := up (ki3 (ki2 (ki1 s) (s 102 4 * 493))) 102 4 ((ki3 (ki2 (ki1 s) (s 102 4 * 493))) 102 4 + 1)
def ti1 (s : St) : St := up s 102 4 (s 102 4 - 1)
def ti2 (s : St) (a : Int32) : St := cpy s 103 464 105 1479 a 0 464
def ti3 (s : St) (a : Int32) : St := cpy s 82 29 105 1479 (a + 464) 0 29
def ti4 (s : St) : St := up s 102 3 (rg (s 108) 3 (s 102 4))
def tiS (s : St) : St := ti4 (ti3 (ti2 (ti1 s) (ti1 s 102 4 * 493)) (ti1 s 102 4 * 493))
/-! ===== plans (93: worth 2, donkeyCells 3, lampCell 4, lampPeriod 5; without 95, donkeySeen 97) ===== -/
theorem psR_o {ship : Int32} {o : Nat} (h1 : o ≠ 90) (h2 : o ≠ 92) (h3 : o ≠ 56) (h4 : o ≠ 58) : ∀ (n m : Nat) (s : St), (psR ship n m s).2 o = s o := by
  intro n
  induction n with
  | zero => intro m s; rfl
  | succ n ih =>
    intro m s
    unfold psR
    split
    · exact ih _ _
    · split
      · rw [ih, psT_o h1 h2 h3 h4]
      · exact psT_o h1 h2 h3 h4
theorem psk_o {s : St} {ship : Int32} {o : Nat} (h1 : o ≠ 90) (h2 : o ≠ 92) (h3 : o ≠ 56) (h4 : o ≠ 58) : (psk s ship).2 o = s o := psR_o h1 h2 h3 h4 _ _ _
def lk1 (s : St) (r : Int32) (n : Nat) : St := it (fun m s => rs s 94 12 (nI m) (lfl s 81 (nI m) (nI m) r)) s n
def lka (s : St) (c m : Nat) : Int32 := if cM s 0 - 1 < nI c + nI m then cM s 0 - 1 else nI c + nI m
def lkM (s : St) (p r : Int32) (c n : Nat) : Int32 := bt (fun m => iSn (lka s c m) p (nI m) (nI m) r) n
def lkC (s : St) (p r : Int32) (d n : Nat) : St := it (fun c s => rs s 96 36 (nI d * 12 + nI c) (lkM s p r c (ct (cM s 0)))) s n
def lkD (s : St) (r : Int32) (n : Nat) : St := it (fun d s => lkC s (dP s (nI d)) r d (ct (cM s 0))) s n
theorem lk1_o {s : St} {r : Int32} {n o : Nat} (h : o ≠ 95) : lk1 s r n o = s o := by
  induction n with
  | zero => rfl
  | succ n ih => show rs (lk1 s r n) 94 12 _ _ o = _; rw [rs_o h, ih]
theorem lkC_o {s : St} {p r : Int32} {d n o : Nat} (h : o ≠ 97) : lkC s p r d n o = s o := by
  induction n with
  | zero => rfl
  | succ n ih => show rs (lkC s p r d n) 96 36 _ _ o = _; rw [rs_o h, ih]
theorem lkD_o {s : St} {r : Int32} {n o : Nat} (h : o ≠ 97) : lkD s r n o = s o := by
  induction n with
  | zero => rfl
  | succ n ih => show lkC (lkD s r n) _ r n _ o = _; rw [lkC_o h, ih]
def lkS (s : St) : St := lkD (lk1 s (rch s 81) (ct (cM s 0))) (rch s 81) (ct (cM s 2))
def sdF (s : St) (cells : Int32) (m n : Nat) : Int32 := it (fun d a => a + ((rg (s 97) 36 (nI d * 12 + ((cells >>> ((4 * nI d) &&& 31)) &&& 15)) >>> (nI m &&& 31)) &&& 1)) (rg (s 95) 12 (nI m)) n
def sd1 (s : St) (cells : Int32) (n : Nat) : St := it (fun m s => rs s 85 12 (nI m) (sdF s cells m (ct (cM s 2)))) s n
theorem sd1_o {s : St} {cells : Int32} {n o : Nat} (h : o ≠ 86) : sd1 s cells n o = s o := by
  induction n with
  | zero => rfl
  | succ n ih => show rs (sd1 s cells n) 85 12 _ _ o = _; rw [rs_o h, ih]
def sdS (s : St) (cells : Int32) : St := (rdk (sd1 s cells (ct (cM s 0))) (ct (cM s 0))).1
def pqB (ships : Int32) (k : Nat) (z : Int32 × St) : Int32 × St := if b2 (hB ships (nI k)) = 0 then z else (z.1 + pcg (psk z.2 (nI k)).2 (nI k) (psk z.2 (nI k)).1, (psk z.2 (nI k)).2)
def pqF (s : St) (ships : Int32) (n : Nat) : Int32 × St := it (pqB ships) (0, s) n
theorem pqF_o {s : St} {ships : Int32} {n o : Nat} (h1 : o ≠ 90) (h2 : o ≠ 92) (h3 : o ≠ 56) (h4 : o ≠ 58) : (pqF s ships n).2 o = s o := by
  induction n with
  | zero => rfl
  | succ n ih =>
    show (pqB ships n (pqF s ships n)).2 o = _
    unfold pqB; split
    · exact ih
    · rw [psk_o h1 h2 h3 h4, ih]
theorem pqF_1 {s : St} {ships : Int32} {i : Nat} (h : b2 (hB ships (nI i)) = 0) : pqF s ships (i + 1) = pqF s ships i := by
  show pqB ships i (pqF s ships i) = _; unfold pqB; rw [if_pos h]
theorem pqF_2 {s : St} {ships : Int32} {i : Nat} (h : ¬ b2 (hB ships (nI i)) = 0) : pqF s ships (i + 1) = ((pqF s ships i).1 + pcg (psk (pqF s ships i).2 (nI i)).2 (nI i) (psk (pqF s ships i).2 (nI i)).1, (psk (pqF s ships i).2 (nI i)).2) := by
  show pqB ships i (pqF s ships i) = _; unfold pqB; rw [if_neg h]
def slS (s : St) (c p r : Int32) (n : Nat) : St := it (fun m s => rs s 85 12 (nI m) (rg (s 95) 12 (nI m) + b2 (iSn c p (nI m) (nI m) r))) s n
theorem slS_o {s : St} {c p r : Int32} {n o : Nat} (h : o ≠ 86) : slS s c p r n o = s o := by
  induction n with
  | zero => rfl
  | succ n ih => show rs (slS s c p r n) 85 12 _ _ o = _; rw [rs_o h, ih]
def shL (s : St) (c p r : Int32) : St := (rdk (slS s c p r (ct (cM s 0))) (ct (cM s 0))).1
def sfB (k : Nat) (z : Int32 × St) : Int32 × St := (z.1 + b2 ((psk z.2 (nI k)).1 = -1), (psk z.2 (nI k)).2)
def sfF (s : St) (n : Nat) : Int32 × St := it sfB (0, s) n
theorem sfF_s {s : St} {i : Nat} : sfF s (i + 1) = ((sfF s i).1 + b2 ((psk (sfF s i).2 (nI i)).1 = -1), (psk (sfF s i).2 (nI i)).2) := rfl
theorem sfF_o {s : St} {n o : Nat} (h1 : o ≠ 90) (h2 : o ≠ 92) (h3 : o ≠ 56) (h4 : o ≠ 58) : (sfF s n).2 o = s o := by
  induction n with
  | zero => rfl
  | succ n ih => rw [sfF_s, psk_o h1 h2 h3 h4, ih]

set_option maxRecDepth 20000 in
set_option maxHeartbeats 4000000 in
theorem c_Winter_struck {l : Launch} {G : Gz} (hG : zI G) (σ : St) : MI l G y_Winter_struck prog_11_method_2_code 1 .int 3 [.ref (G.1 98)] σ (rg (σ 101) 29 2) σ := by
  refine MI.of hG (by decide) (Nat.le_of_ble_eq_true rfl) (fun X hx hq => ?_)
  show J l G X 1 σ 0 [(0, .ref (G.1 98))] []
  refine j_aload_n hx d_Winter_struck_0 rfl 0 rfl ?_
  refine j_get hx ck_Winter 0 (by decide) t_290 (by decide) (sh_98 _ _) rfl d_Winter_struck_1 ?_
  refine j_iconst (v := 2) hx d_Winter_struck_4 (by decide) ?_
  refine j_callVi hx (c_Nights_get hG isNights_99 σ 2) mo_Nights_get mv_Nights_get t_1372 (by decide) rfl (by decide) (sh_99 _ _) rfl rfl (Nat.le_of_ble_eq_true rfl) d_Winter_struck_5 ?_
  exact j_iret hx hq rfl d_Winter_struck_8 (by first | (first | rfl | (simp only []; done) | (simp []; done)) | fail) (by first | (first | rfl | (simp only []; done) | (simp []; done)) | fail)

set_option maxRecDepth 20000 in
set_option maxHeartbeats 4000000 in
theorem c_Winter_parish {l : Launch} {G : Gz} (hG : zI G) (σ : St) : MI l G y_Winter_parish prog_11_method_3_code 1 .int 3 [.ref (G.1 98)] σ (rg (σ 101) 29 3) σ := by
  refine MI.of hG (by decide) (Nat.le_of_ble_eq_true rfl) (fun X hx hq => ?_)
  show J l G X 1 σ 0 [(0, .ref (G.1 98))] []
  refine j_aload_n hx d_Winter_parish_0 rfl 0 rfl ?_
  refine j_get hx ck_Winter 0 (by decide) t_290 (by decide) (sh_98 _ _) rfl d_Winter_parish_1 ?_
  refine j_iconst (v := 3) hx d_Winter_parish_4 (by decide) ?_
  refine j_callVi hx (c_Nights_get hG isNights_99 σ 3) mo_Nights_get mv_Nights_get t_1372 (by decide) rfl (by decide) (sh_99 _ _) rfl rfl (Nat.le_of_ble_eq_true rfl) d_Winter_parish_5 ?_
  exact j_iret hx hq rfl d_Winter_parish_8 (by first | (first | rfl | (simp only []; done) | (simp []; done)) | fail) (by first | (first | rfl | (simp only []; done) | (simp []; done)) | fail)

set_option maxRecDepth 20000 in
set_option maxHeartbeats 4000000 in
theorem c_Winter_alive {l : Launch} {G : Gz} (hG : zI G) (σ : St) : MI l G y_Winter_alive prog_11_method_4_code 1 .int 3 [.ref (G.1 98)] σ (rg (σ 101) 29 5) σ := by
  refine MI.of hG (by decide) (Nat.le_of_ble_eq_true rfl) (fun X hx hq => ?_)
  show J l G X 1 σ 0 [(0, .ref (G.1 98))] []
  refine j_aload_n hx d_Winter_alive_0 rfl 0 rfl ?_
  refine j_get hx ck_Winter 0 (by decide) t_290 (by decide) (sh_98 _ _) rfl d_Winter_alive_1 ?_
  refine j_iconst (v := 5) hx d_Winter_alive_4 (by decide) ?_
  refine j_callVi hx (c_Nights_get hG isNights_99 σ 5) mo_Nights_get mv_Nights_get t_1372 (by decide) rfl (by decide) (sh_99 _ _) rfl rfl (Nat.le_of_ble_eq_true rfl) d_Winter_alive_5 ?_
  exact j_iret hx hq rfl d_Winter_alive_8 (by first | (first | rfl | (simp only []; done) | (simp []; done)) | fail) (by first | (first | rfl | (simp only []; done) | (simp []; done)) | fail)

set_option maxRecDepth 20000 in
set_option maxHeartbeats 4000000 in
theorem c_Winter_foggy {l : Launch} {G : Gz} (hG : zI G) (σ : St) : MI l G y_Winter_foggy prog_11_method_5_code 1 .int 3 [.ref (G.1 98)] σ (σ 98 2) σ := by
  refine MI.of hG (by decide) (Nat.le_of_ble_eq_true rfl) (fun X hx hq => ?_)
  show J l G X 1 σ 0 [(0, .ref (G.1 98))] []
  refine j_aload_n hx d_Winter_foggy_0 rfl 0 rfl ?_
  refine j_get hx ck_Winter 2 (by decide) t_292 (by decide) (sh_98 _ _) rfl d_Winter_foggy_1 ?_
  exact j_iret hx hq rfl d_Winter_foggy_4 (by first | (first | rfl | (simp only []; done) | (simp []; done)) | fail) (by first | (first | rfl | (simp only []; done) | (simp []; done)) | fail)

set_option maxRecDepth 20000 in
set_option maxHeartbeats 4000000 in
theorem c_Winter_begin {l : Launch} {G : Gz} (hG : zI G) {o : Nat} (ho_o : isNights o) (σ : St) (seed : Int32) : MV l G y_Winter_begin prog_11_method_6_code 3 4 [.ref (G.1 98), .ref (G.1 (o)), .int seed] σ (wbS σ o seed) := by
  refine MV.of hG (by decide) (Nat.le_of_ble_eq_true rfl) (fun X hx hq => ?_)
  show J l G X 3 σ 0 [(0, .ref (G.1 98)), (1, .ref (G.1 (o))), (2, .int seed)] []
  refine j_aload_n hx d_Winter_begin_0 rfl 0 rfl ?_
  refine j_get hx ck_Winter 0 (by decide) t_290 (by decide) (sh_98 _ _) rfl d_Winter_begin_1 ?_
  refine j_get hx ck_Nights 0 (by decide) t_230 (by decide) (sh_99 _ _) rfl d_Winter_begin_4 ?_
  refine j_aload_n hx d_Winter_begin_7 rfl 1 rfl ?_
  refine j_get hx ck_Nights 0 (by decide) t_230 (by have := ho_o.1; omega) (ho_o.2.1 _ _) rfl d_Winter_begin_8 ?_
  refine j_callVv hx (c_Row_become hG ir_100 ho_o.2.2 σ) mo_Row_become mv_Row_become t_1355 (by decide) rfl (by decide) (sh_100 _ _) rfl rfl (Nat.le_of_ble_eq_true rfl) d_Winter_begin_11 ?_
  obtain ⟨s9_1, eg_1⟩ : ∃ z : St, z = wb1 σ o := ⟨_, rfl⟩
  refine J.to (σ' := s9_1) (by rw [eg_1]; first | done | rfl) rfl ?_
  refine j_aload_n hx d_Winter_begin_14 rfl 0 rfl ?_
  refine j_get hx ck_Winter 0 (by decide) t_290 (by decide) (sh_98 _ _) rfl d_Winter_begin_15 ?_
  refine j_callVv hx (c_Nights_forgetWrecks hG isNights_99 s9_1) mo_Nights_forgetWrecks mv_Nights_forgetWrecks t_1356 (by decide) rfl (by decide) (sh_99 _ _) rfl rfl (Nat.le_of_ble_eq_true rfl) d_Winter_begin_18 ?_
  obtain ⟨s9_2, eg_2⟩ : ∃ z : St, z = fwS s9_1 := ⟨_, rfl⟩
  refine J.to (σ' := s9_2) (by rw [eg_2]; first | done | rfl) rfl ?_
  refine j_aload_n hx d_Winter_begin_21 rfl 0 rfl ?_
  refine j_iload_n hx d_Winter_begin_22 rfl 2 rfl ?_
  refine j_put hx ck_Winter 1 (by decide) t_291 (by decide) (sh_98 _ _) rfl (Nat.le_of_ble_eq_true rfl) (sh_98 _ _) d_Winter_begin_23 ?_
  refine j_aload_n hx d_Winter_begin_26 rfl 0 rfl ?_
  refine j_iconst (v := 0) hx d_Winter_begin_27 (by decide) ?_
  refine j_put hx ck_Winter 2 (by decide) t_292 (by decide) (sh_98 _ _) rfl (Nat.le_of_ble_eq_true rfl) (sh_98 _ _) d_Winter_begin_28 ?_
  exact j_vret hx hq d_Winter_begin_31 (by first | (rw [eg_2, eg_1]; rfl) | fail)

set_option maxRecDepth 20000 in
set_option maxHeartbeats 4000000 in
theorem c_Winter_draw {l : Launch} {G : Gz} (hG : zI G) (σ : St) (b : Int32) : MI l G y_Winter_draw prog_11_method_8_code 2 .int 2 [.ref (G.1 98), .int b] σ (drV σ b) (drS σ) := by
  refine MI.of hG (by decide) (Nat.le_of_ble_eq_true rfl) (fun X hx hq => ?_)
  show J l G X 2 σ 0 [(0, .ref (G.1 98)), (1, .int b)] []
  refine j_aload_n hx d_Winter_draw_0 rfl 0 rfl ?_
  refine j_aload_n hx d_Winter_draw_1 rfl 0 rfl ?_
  refine j_get hx ck_Winter 1 (by decide) t_291 (by decide) (sh_98 _ _) rfl d_Winter_draw_2 ?_
  refine j_ldc (v := 1103515245) hx t_1369 d_Winter_draw_5 ?_
  refine j_imul hx d_Winter_draw_7 ?_
  refine j_sipush (v := 12345) hx d_Winter_draw_8 (by decide) ?_
  refine j_iadd hx d_Winter_draw_11 ?_
  refine j_put hx ck_Winter 1 (by decide) t_291 (by decide) (sh_98 _ _) rfl (Nat.le_of_ble_eq_true rfl) (sh_98 _ _) d_Winter_draw_12 ?_
  refine j_aload_n hx d_Winter_draw_15 rfl 0 rfl ?_
  refine j_get hx ck_Winter 1 (by decide) t_291 (by decide) (sh_98 _ _) rfl d_Winter_draw_16 ?_
  refine j_bipush (v := 16) hx d_Winter_draw_19 (by decide) ?_
  refine j_iushr hx d_Winter_draw_21 rfl ?_
  refine j_sipush (v := 32767) hx d_Winter_draw_22 (by decide) ?_
  refine j_iand hx d_Winter_draw_25 ?_
  refine j_iload_n hx d_Winter_draw_26 rfl 1 rfl ?_
  refine j_callNi hx (c_DL_left hG (up σ 98 1 (((σ 98 1) * 1103515245) + 12345)) (((((up σ 98 1 (((σ 98 1) * 1103515245) + 12345)) 98 1).toUInt32 >>> ((16 : Int32).toUInt32 &&& Int32.toUInt32 31)).toInt32) &&& 32767) b) mo_DL_left t_1113 t_1370 (by decide) rfl rfl (Nat.le_of_ble_eq_true rfl) d_Winter_draw_27 ?_
  exact j_iret hx hq rfl d_Winter_draw_30 (by first | (first | rfl | (simp only []; done) | (simp []; done)) | fail) (by first | (first | rfl | (simp only []; done) | (simp []; done)) | fail)

set_option maxRecDepth 20000 in
set_option maxHeartbeats 4000000 in
theorem c_Winter_live {l : Launch} {G : Gz} (hG : zI G) (σ : St) (many : Int32) (q : Int32) : MV l G y_Winter_live prog_11_method_7_code 8 7 [.ref (G.1 98), .ref (G.1 4), .ref (G.1 50), .ref (G.1 84), .int many, .int q] σ (wlv σ (wsh σ) q (ct many)) := by
  refine MV.of hG (by decide) (Nat.le_of_ble_eq_true rfl) (fun X hx hq => ?_)
  show J l G X 8 σ 0 [(0, .ref (G.1 98)), (1, .ref (G.1 4)), (2, .ref (G.1 50)), (3, .ref (G.1 84)), (4, .int many), (5, .int q)] []
  refine j_aload_n hx d_Winter_live_0 rfl 1 rfl ?_
  refine j_get hx ck_Coast 0 (by decide) t_88 (by decide) (sh_4 _ _) rfl d_Winter_live_1 ?_
  refine j_iconst (v := 0) hx d_Winter_live_4 (by decide) ?_
  refine j_callVi hx (c_Row_getA hG ir_5 6 rfl σ 0) mo_Row_get mv_Row_get t_1364 (by decide) rfl (by decide) (sh_5 _ _) rfl rfl (Nat.le_of_ble_eq_true rfl) d_Winter_live_5 ?_
  refine j_if_ne (tgt := 15) hx d_Winter_live_8 (by decide) (fun zc8 => ?_) (fun zc8 => ?_)
  · skip
    refine j_aload_n hx d_Winter_live_15 rfl 1 rfl ?_
    refine j_get hx ck_Coast 0 (by decide) t_88 (by decide) (sh_4 _ _) rfl d_Winter_live_16 ?_
    refine j_iconst (v := 3) hx d_Winter_live_19 (by decide) ?_
    refine j_callVi hx (c_Row_getA hG ir_5 6 rfl σ 3) mo_Row_get mv_Row_get t_1364 (by decide) rfl (by decide) (sh_5 _ _) rfl rfl (Nat.le_of_ble_eq_true rfl) d_Winter_live_20 ?_
    refine j_istore hx [(6, .int (rg (σ (5 + 1)) 6 3)), (0, .ref (G.1 98)), (1, .ref (G.1 4)), (2, .ref (G.1 50)), (3, .ref (G.1 84)), (4, .int many), (5, .int q)] d_Winter_live_23 (by decide) rfl ?_
    obtain ⟨w6, ew6⟩ : ∃ z : Int32, z = wsh σ := ⟨_, rfl⟩
    refine J.to (ls' := [(6, .int w6), (0, .ref (G.1 98)), (1, .ref (G.1 4)), (2, .ref (G.1 50)), (3, .ref (G.1 84)), (4, .int many), (5, .int q)]) rfl (by rw [ew6]; unfold wsh; first | (rw [if_pos (show cM σ 0 = 0 from zc8)]; done) | (rw [if_neg (show ¬ cM σ 0 = 0 from zc8)]; done)) ?_
    refine j_iconst (v := 0) hx d_Winter_live_25 (by decide) ?_
    refine j_istore hx [(7, .int 0), (6, .int w6), (0, .ref (G.1 98)), (1, .ref (G.1 4)), (2, .ref (G.1 50)), (3, .ref (G.1 84)), (4, .int many), (5, .int q)] d_Winter_live_26 (by decide) rfl ?_
    have hl28 : ∀ (N9 : Nat) (i : Nat), (i ≤ (ct many)) → (ct many) - i = N9 → J l G X 8 (wlv σ w6 q i) 28 [(0, .ref (G.1 98)), (1, .ref (G.1 4)), (2, .ref (G.1 50)), (3, .ref (G.1 84)), (4, .int many), (5, .int q), (6, .int w6), (7, .int (nI i))] [] := by
      intro N9
      induction N9 using Nat.strongRecOn with
      | _ N9 ih28 =>
        intro i hi_i hm28
        refine j_iload hx d_Winter_live_28 7 rfl ?_
        refine j_iload hx d_Winter_live_30 4 rfl ?_
        refine j_icmp_ge (tgt := 106) hx d_Winter_live_32 (by decide) (fun zc32 => ?_) (fun zc32 => ?_)
        · skip
          obtain rfl := ct_end' hi_i zc32
          exact j_vret hx hq d_Winter_live_106 (by first | (rw [ew6]) | fail)
        · skip
          have hlt28 := ct_go hi_i zc32
          refine j_aload_n hx d_Winter_live_35 rfl 0 rfl ?_
          refine j_bipush (v := 16) hx d_Winter_live_36 (by decide) ?_
          refine j_callVi hx (c_Winter_draw hG (wlv σ w6 q i) 16) mo_Winter_draw mv_Winter_draw t_1365 (by decide) rfl (by decide) (sh_98 _ _) rfl rfl (Nat.le_of_ble_eq_true rfl) d_Winter_live_38 ?_
          refine j_iload hx d_Winter_live_41 5 rfl ?_
          refine j_icmp_ge (tgt := 54) hx d_Winter_live_43 (by decide) (fun zc43 => ?_) (fun zc43 => ?_)
          · skip
            obtain ⟨s9_1, eg_1⟩ : ∃ z : St, z = wl1 (wlv σ w6 q i) q := ⟨_, rfl⟩
            refine J.to (σ' := s9_1) (by rw [eg_1]; first | exact (if_pos zc43).symm | exact (if_neg zc43).symm) rfl ?_
            refine j_aload_n hx d_Winter_live_54 rfl 0 rfl ?_
            refine j_dup hx d_Winter_live_55 rfl ?_
            refine j_get hx ck_Winter 2 (by decide) t_292 (by decide) (sh_98 _ _) rfl d_Winter_live_56 ?_
            refine j_aload_n hx d_Winter_live_59 rfl 0 rfl ?_
            refine j_get hx ck_Winter 0 (by decide) t_290 (by decide) (sh_98 _ _) rfl d_Winter_live_60 ?_
            refine j_iconst (v := 1) hx d_Winter_live_63 (by decide) ?_
            refine j_callVi hx (c_Nights_get hG isNights_99 s9_1 1) mo_Nights_get mv_Nights_get t_1372 (by decide) rfl (by decide) (sh_99 _ _) rfl rfl (Nat.le_of_ble_eq_true rfl) d_Winter_live_64 ?_
            refine j_iadd hx d_Winter_live_67 ?_
            refine j_put hx ck_Winter 2 (by decide) t_292 (by decide) (sh_98 _ _) rfl (Nat.le_of_ble_eq_true rfl) (sh_98 _ _) d_Winter_live_68 ?_
            obtain ⟨s9_2, eg_2⟩ : ∃ z : St, z = wl2 s9_1 := ⟨_, rfl⟩
            refine J.to (σ' := s9_2) (by rw [eg_2]; first | done | rfl) rfl ?_
            refine j_iload hx d_Winter_live_71 6 rfl ?_
            refine j_if_le (tgt := 92) hx d_Winter_live_73 (by decide) (fun zc73 => ?_) (fun zc73 => ?_)
            · skip
              obtain ⟨s9_3, eg_3⟩ : ∃ z : St, z = wl3 s9_2 w6 := ⟨_, rfl⟩
              refine J.to (σ' := s9_3) (by rw [eg_3]; first | exact (if_pos zc73).symm | exact (if_neg zc73).symm) rfl ?_
              refine j_aload_n hx d_Winter_live_92 rfl 0 rfl ?_
              refine j_get hx ck_Winter 0 (by decide) t_290 (by decide) (sh_98 _ _) rfl d_Winter_live_93 ?_
              refine j_callVi hx (c_Nights_nextNight hG isNights_99 s9_3) mo_Nights_nextNight mv_Nights_nextNight t_1374 (by decide) rfl (by decide) (sh_99 _ _) rfl rfl (Nat.le_of_ble_eq_true rfl) d_Winter_live_96 ?_
              refine j_pop hx d_Winter_live_99 rfl ?_
              refine j_iinc hx [(7, .int ((nI i) + 1)), (0, .ref (G.1 98)), (1, .ref (G.1 4)), (2, .ref (G.1 50)), (3, .ref (G.1 84)), (4, .int many), (5, .int q), (6, .int w6)] d_Winter_live_100 7 rfl rfl (by decide) rfl ?_
              refine j_goto (tgt := 28) hx d_Winter_live_103 (by decide) ?_
              refine J.lsub (ls' := [(0, .ref (G.1 98)), (1, .ref (G.1 4)), (2, .ref (G.1 50)), (3, .ref (G.1 84)), (4, .int many), (5, .int q), (6, .int w6), (7, .int ((nI i) + 1))]) [1, 2, 3, 4, 5, 6, 7, 0] rfl ?_
              refine J.to ?_ ?_ (ih28 _ ?_ (i + 1) hlt28 rfl)
              · first | (rw [eg_3, eg_2, eg_1]; rfl) | fail
              · first | (first | rfl | (simp only [nI_s]; done) | (simp only [nI_s, it_s]; done) | (simp [nI_s, it_s, zc8, zc32, zc43, zc73]; done)) | fail
              · first | (omega) | fail
            · skip
              refine j_aload_n hx d_Winter_live_76 rfl 3 rfl ?_
              refine j_aload_n hx d_Winter_live_77 rfl 1 rfl ?_
              refine j_aload_n hx d_Winter_live_78 rfl 2 rfl ?_
              refine j_aload_n hx d_Winter_live_79 rfl 0 rfl ?_
              refine j_get hx ck_Winter 0 (by decide) t_290 (by decide) (sh_98 _ _) rfl d_Winter_live_80 ?_
              refine j_aload_n hx d_Winter_live_83 rfl 0 rfl ?_
              refine j_iload hx d_Winter_live_84 6 rfl ?_
              refine j_callVi hx (c_Winter_draw hG s9_2 w6) mo_Winter_draw mv_Winter_draw t_1365 (by decide) rfl (by decide) (sh_98 _ _) rfl rfl (Nat.le_of_ble_eq_true rfl) d_Winter_live_86 ?_
              refine j_callVv hx (c_Passing_pass hG isNights_99 (drS s9_2) (drV s9_2 w6)) mo_Passing_pass mv_Passing_pass t_1373 (by decide) rfl (by decide) (sh_84 _ _) rfl rfl (Nat.le_of_ble_eq_true rfl) d_Winter_live_89 ?_
              obtain ⟨s9_3, eg_3⟩ : ∃ z : St, z = wl3 s9_2 w6 := ⟨_, rfl⟩
              refine J.to (σ' := s9_3) (by rw [eg_3]; first | exact (if_pos zc73).symm | exact (if_neg zc73).symm) rfl ?_
              refine j_aload_n hx d_Winter_live_92 rfl 0 rfl ?_
              refine j_get hx ck_Winter 0 (by decide) t_290 (by decide) (sh_98 _ _) rfl d_Winter_live_93 ?_
              refine j_callVi hx (c_Nights_nextNight hG isNights_99 s9_3) mo_Nights_nextNight mv_Nights_nextNight t_1374 (by decide) rfl (by decide) (sh_99 _ _) rfl rfl (Nat.le_of_ble_eq_true rfl) d_Winter_live_96 ?_
              refine j_pop hx d_Winter_live_99 rfl ?_
              refine j_iinc hx [(7, .int ((nI i) + 1)), (0, .ref (G.1 98)), (1, .ref (G.1 4)), (2, .ref (G.1 50)), (3, .ref (G.1 84)), (4, .int many), (5, .int q), (6, .int w6)] d_Winter_live_100 7 rfl rfl (by decide) rfl ?_
              refine j_goto (tgt := 28) hx d_Winter_live_103 (by decide) ?_
              refine J.lsub (ls' := [(0, .ref (G.1 98)), (1, .ref (G.1 4)), (2, .ref (G.1 50)), (3, .ref (G.1 84)), (4, .int many), (5, .int q), (6, .int w6), (7, .int ((nI i) + 1))]) [1, 2, 3, 4, 5, 6, 7, 0] rfl ?_
              refine J.to ?_ ?_ (ih28 _ ?_ (i + 1) hlt28 rfl)
              · first | (rw [eg_3, eg_2, eg_1]; rfl) | fail
              · first | (first | rfl | (simp only [nI_s]; done) | (simp only [nI_s, it_s]; done) | (simp [nI_s, it_s, zc8, zc32, zc43, zc73]; done)) | fail
              · first | (omega) | fail
          · skip
            refine j_aload_n hx d_Winter_live_46 rfl 0 rfl ?_
            refine j_get hx ck_Winter 0 (by decide) t_290 (by decide) (sh_98 _ _) rfl d_Winter_live_47 ?_
            refine j_callVi hx (c_Nights_fogComes hG isNights_99 (drS (wlv σ w6 q i))) mo_Nights_fogComes mv_Nights_fogComes t_1371 (by decide) rfl (by decide) (sh_99 _ _) rfl rfl (Nat.le_of_ble_eq_true rfl) d_Winter_live_50 ?_
            refine j_pop hx d_Winter_live_53 rfl ?_
            obtain ⟨s9_1, eg_1⟩ : ∃ z : St, z = wl1 (wlv σ w6 q i) q := ⟨_, rfl⟩
            refine J.to (σ' := s9_1) (by rw [eg_1]; first | exact (if_pos zc43).symm | exact (if_neg zc43).symm) rfl ?_
            refine j_aload_n hx d_Winter_live_54 rfl 0 rfl ?_
            refine j_dup hx d_Winter_live_55 rfl ?_
            refine j_get hx ck_Winter 2 (by decide) t_292 (by decide) (sh_98 _ _) rfl d_Winter_live_56 ?_
            refine j_aload_n hx d_Winter_live_59 rfl 0 rfl ?_
            refine j_get hx ck_Winter 0 (by decide) t_290 (by decide) (sh_98 _ _) rfl d_Winter_live_60 ?_
            refine j_iconst (v := 1) hx d_Winter_live_63 (by decide) ?_
            refine j_callVi hx (c_Nights_get hG isNights_99 s9_1 1) mo_Nights_get mv_Nights_get t_1372 (by decide) rfl (by decide) (sh_99 _ _) rfl rfl (Nat.le_of_ble_eq_true rfl) d_Winter_live_64 ?_
            refine j_iadd hx d_Winter_live_67 ?_
            refine j_put hx ck_Winter 2 (by decide) t_292 (by decide) (sh_98 _ _) rfl (Nat.le_of_ble_eq_true rfl) (sh_98 _ _) d_Winter_live_68 ?_
            obtain ⟨s9_2, eg_2⟩ : ∃ z : St, z = wl2 s9_1 := ⟨_, rfl⟩
            refine J.to (σ' := s9_2) (by rw [eg_2]; first | done | rfl) rfl ?_
            refine j_iload hx d_Winter_live_71 6 rfl ?_
            refine j_if_le (tgt := 92) hx d_Winter_live_73 (by decide) (fun zc73 => ?_) (fun zc73 => ?_)
            · skip
              obtain ⟨s9_3, eg_3⟩ : ∃ z : St, z = wl3 s9_2 w6 := ⟨_, rfl⟩
              refine J.to (σ' := s9_3) (by rw [eg_3]; first | exact (if_pos zc73).symm | exact (if_neg zc73).symm) rfl ?_
              refine j_aload_n hx d_Winter_live_92 rfl 0 rfl ?_
              refine j_get hx ck_Winter 0 (by decide) t_290 (by decide) (sh_98 _ _) rfl d_Winter_live_93 ?_
              refine j_callVi hx (c_Nights_nextNight hG isNights_99 s9_3) mo_Nights_nextNight mv_Nights_nextNight t_1374 (by decide) rfl (by decide) (sh_99 _ _) rfl rfl (Nat.le_of_ble_eq_true rfl) d_Winter_live_96 ?_
              refine j_pop hx d_Winter_live_99 rfl ?_
              refine j_iinc hx [(7, .int ((nI i) + 1)), (0, .ref (G.1 98)), (1, .ref (G.1 4)), (2, .ref (G.1 50)), (3, .ref (G.1 84)), (4, .int many), (5, .int q), (6, .int w6)] d_Winter_live_100 7 rfl rfl (by decide) rfl ?_
              refine j_goto (tgt := 28) hx d_Winter_live_103 (by decide) ?_
              refine J.lsub (ls' := [(0, .ref (G.1 98)), (1, .ref (G.1 4)), (2, .ref (G.1 50)), (3, .ref (G.1 84)), (4, .int many), (5, .int q), (6, .int w6), (7, .int ((nI i) + 1))]) [1, 2, 3, 4, 5, 6, 7, 0] rfl ?_
              refine J.to ?_ ?_ (ih28 _ ?_ (i + 1) hlt28 rfl)
              · first | (rw [eg_3, eg_2, eg_1]; rfl) | fail
              · first | (first | rfl | (simp only [nI_s]; done) | (simp only [nI_s, it_s]; done) | (simp [nI_s, it_s, zc8, zc32, zc43, zc73]; done)) | fail
              · first | (omega) | fail
            · skip
              refine j_aload_n hx d_Winter_live_76 rfl 3 rfl ?_
              refine j_aload_n hx d_Winter_live_77 rfl 1 rfl ?_
              refine j_aload_n hx d_Winter_live_78 rfl 2 rfl ?_
              refine j_aload_n hx d_Winter_live_79 rfl 0 rfl ?_
              refine j_get hx ck_Winter 0 (by decide) t_290 (by decide) (sh_98 _ _) rfl d_Winter_live_80 ?_
              refine j_aload_n hx d_Winter_live_83 rfl 0 rfl ?_
              refine j_iload hx d_Winter_live_84 6 rfl ?_
              refine j_callVi hx (c_Winter_draw hG s9_2 w6) mo_Winter_draw mv_Winter_draw t_1365 (by decide) rfl (by decide) (sh_98 _ _) rfl rfl (Nat.le_of_ble_eq_true rfl) d_Winter_live_86 ?_
              refine j_callVv hx (c_Passing_pass hG isNights_99 (drS s9_2) (drV s9_2 w6)) mo_Passing_pass mv_Passing_pass t_1373 (by decide) rfl (by decide) (sh_84 _ _) rfl rfl (Nat.le_of_ble_eq_true rfl) d_Winter_live_89 ?_
              obtain ⟨s9_3, eg_3⟩ : ∃ z : St, z = wl3 s9_2 w6 := ⟨_, rfl⟩
              refine J.to (σ' := s9_3) (by rw [eg_3]; first | exact (if_pos zc73).symm | exact (if_neg zc73).symm) rfl ?_
              refine j_aload_n hx d_Winter_live_92 rfl 0 rfl ?_
              refine j_get hx ck_Winter 0 (by decide) t_290 (by decide) (sh_98 _ _) rfl d_Winter_live_93 ?_
              refine j_callVi hx (c_Nights_nextNight hG isNights_99 s9_3) mo_Nights_nextNight mv_Nights_nextNight t_1374 (by decide) rfl (by decide) (sh_99 _ _) rfl rfl (Nat.le_of_ble_eq_true rfl) d_Winter_live_96 ?_
              refine j_pop hx d_Winter_live_99 rfl ?_
              refine j_iinc hx [(7, .int ((nI i) + 1)), (0, .ref (G.1 98)), (1, .ref (G.1 4)), (2, .ref (G.1 50)), (3, .ref (G.1 84)), (4, .int many), (5, .int q), (6, .int w6)] d_Winter_live_100 7 rfl rfl (by decide) rfl ?_
              refine j_goto (tgt := 28) hx d_Winter_live_103 (by decide) ?_
              refine J.lsub (ls' := [(0, .ref (G.1 98)), (1, .ref (G.1 4)), (2, .ref (G.1 50)), (3, .ref (G.1 84)), (4, .int many), (5, .int q), (6, .int w6), (7, .int ((nI i) + 1))]) [1, 2, 3, 4, 5, 6, 7, 0] rfl ?_
              refine J.to ?_ ?_ (ih28 _ ?_ (i + 1) hlt28 rfl)
              · first | (rw [eg_3, eg_2, eg_1]; rfl) | fail
              · first | (first | rfl | (simp only [nI_s]; done) | (simp only [nI_s, it_s]; done) | (simp [nI_s, it_s, zc8, zc32, zc43, zc73]; done)) | fail
              · first | (omega) | fail
    refine J.lsub (ls' := [(0, .ref (G.1 98)), (1, .ref (G.1 4)), (2, .ref (G.1 50)), (3, .ref (G.1 84)), (4, .int many), (5, .int q), (6, .int w6), (7, .int 0)]) [2, 3, 4, 5, 6, 7, 1, 0] rfl ?_
    refine J.to ?_ ?_ (hl28 _ 0 (Nat.zero_le _) rfl)
    · first | (rfl) | fail
    · first | (first | rfl | (simp only [nI_s]; done) | (simp only [nI_s, it_s]; done) | (simp [nI_s, it_s, zc8]; done)) | fail
  · skip
    refine j_iconst (v := 0) hx d_Winter_live_11 (by decide) ?_
    refine j_goto (tgt := 23) hx d_Winter_live_12 (by decide) ?_
    refine j_istore hx [(6, .int 0), (0, .ref (G.1 98)), (1, .ref (G.1 4)), (2, .ref (G.1 50)), (3, .ref (G.1 84)), (4, .int many), (5, .int q)] d_Winter_live_23 (by decide) rfl ?_
    obtain ⟨w6, ew6⟩ : ∃ z : Int32, z = wsh σ := ⟨_, rfl⟩
    refine J.to (ls' := [(6, .int w6), (0, .ref (G.1 98)), (1, .ref (G.1 4)), (2, .ref (G.1 50)), (3, .ref (G.1 84)), (4, .int many), (5, .int q)]) rfl (by rw [ew6]; unfold wsh; first | (rw [if_pos (show cM σ 0 = 0 from zc8)]; done) | (rw [if_neg (show ¬ cM σ 0 = 0 from zc8)]; done)) ?_
    refine j_iconst (v := 0) hx d_Winter_live_25 (by decide) ?_
    refine j_istore hx [(7, .int 0), (6, .int w6), (0, .ref (G.1 98)), (1, .ref (G.1 4)), (2, .ref (G.1 50)), (3, .ref (G.1 84)), (4, .int many), (5, .int q)] d_Winter_live_26 (by decide) rfl ?_
    have hl28 : ∀ (N9 : Nat) (i : Nat), (i ≤ (ct many)) → (ct many) - i = N9 → J l G X 8 (wlv σ w6 q i) 28 [(0, .ref (G.1 98)), (1, .ref (G.1 4)), (2, .ref (G.1 50)), (3, .ref (G.1 84)), (4, .int many), (5, .int q), (6, .int w6), (7, .int (nI i))] [] := by
      intro N9
      induction N9 using Nat.strongRecOn with
      | _ N9 ih28 =>
        intro i hi_i hm28
        refine j_iload hx d_Winter_live_28 7 rfl ?_
        refine j_iload hx d_Winter_live_30 4 rfl ?_
        refine j_icmp_ge (tgt := 106) hx d_Winter_live_32 (by decide) (fun zc32 => ?_) (fun zc32 => ?_)
        · skip
          obtain rfl := ct_end' hi_i zc32
          exact j_vret hx hq d_Winter_live_106 (by first | (rw [ew6]) | fail)
        · skip
          have hlt28 := ct_go hi_i zc32
          refine j_aload_n hx d_Winter_live_35 rfl 0 rfl ?_
          refine j_bipush (v := 16) hx d_Winter_live_36 (by decide) ?_
          refine j_callVi hx (c_Winter_draw hG (wlv σ w6 q i) 16) mo_Winter_draw mv_Winter_draw t_1365 (by decide) rfl (by decide) (sh_98 _ _) rfl rfl (Nat.le_of_ble_eq_true rfl) d_Winter_live_38 ?_
          refine j_iload hx d_Winter_live_41 5 rfl ?_
          refine j_icmp_ge (tgt := 54) hx d_Winter_live_43 (by decide) (fun zc43 => ?_) (fun zc43 => ?_)
          · skip
            obtain ⟨s9_1, eg_1⟩ : ∃ z : St, z = wl1 (wlv σ w6 q i) q := ⟨_, rfl⟩
            refine J.to (σ' := s9_1) (by rw [eg_1]; first | exact (if_pos zc43).symm | exact (if_neg zc43).symm) rfl ?_
            refine j_aload_n hx d_Winter_live_54 rfl 0 rfl ?_
            refine j_dup hx d_Winter_live_55 rfl ?_
            refine j_get hx ck_Winter 2 (by decide) t_292 (by decide) (sh_98 _ _) rfl d_Winter_live_56 ?_
            refine j_aload_n hx d_Winter_live_59 rfl 0 rfl ?_
            refine j_get hx ck_Winter 0 (by decide) t_290 (by decide) (sh_98 _ _) rfl d_Winter_live_60 ?_
            refine j_iconst (v := 1) hx d_Winter_live_63 (by decide) ?_
            refine j_callVi hx (c_Nights_get hG isNights_99 s9_1 1) mo_Nights_get mv_Nights_get t_1372 (by decide) rfl (by decide) (sh_99 _ _) rfl rfl (Nat.le_of_ble_eq_true rfl) d_Winter_live_64 ?_
            refine j_iadd hx d_Winter_live_67 ?_
            refine j_put hx ck_Winter 2 (by decide) t_292 (by decide) (sh_98 _ _) rfl (Nat.le_of_ble_eq_true rfl) (sh_98 _ _) d_Winter_live_68 ?_
            obtain ⟨s9_2, eg_2⟩ : ∃ z : St, z = wl2 s9_1 := ⟨_, rfl⟩
            refine J.to (σ' := s9_2) (by rw [eg_2]; first | done | rfl) rfl ?_
            refine j_iload hx d_Winter_live_71 6 rfl ?_
            refine j_if_le (tgt := 92) hx d_Winter_live_73 (by decide) (fun zc73 => ?_) (fun zc73 => ?_)
            · skip
              obtain ⟨s9_3, eg_3⟩ : ∃ z : St, z = wl3 s9_2 w6 := ⟨_, rfl⟩
              refine J.to (σ' := s9_3) (by rw [eg_3]; first | exact (if_pos zc73).symm | exact (if_neg zc73).symm) rfl ?_
              refine j_aload_n hx d_Winter_live_92 rfl 0 rfl ?_
              refine j_get hx ck_Winter 0 (by decide) t_290 (by decide) (sh_98 _ _) rfl d_Winter_live_93 ?_
              refine j_callVi hx (c_Nights_nextNight hG isNights_99 s9_3) mo_Nights_nextNight mv_Nights_nextNight t_1374 (by decide) rfl (by decide) (sh_99 _ _) rfl rfl (Nat.le_of_ble_eq_true rfl) d_Winter_live_96 ?_
              refine j_pop hx d_Winter_live_99 rfl ?_
              refine j_iinc hx [(7, .int ((nI i) + 1)), (0, .ref (G.1 98)), (1, .ref (G.1 4)), (2, .ref (G.1 50)), (3, .ref (G.1 84)), (4, .int many), (5, .int q), (6, .int w6)] d_Winter_live_100 7 rfl rfl (by decide) rfl ?_
              refine j_goto (tgt := 28) hx d_Winter_live_103 (by decide) ?_
              refine J.lsub (ls' := [(0, .ref (G.1 98)), (1, .ref (G.1 4)), (2, .ref (G.1 50)), (3, .ref (G.1 84)), (4, .int many), (5, .int q), (6, .int w6), (7, .int ((nI i) + 1))]) [1, 2, 3, 4, 5, 6, 7, 0] rfl ?_
              refine J.to ?_ ?_ (ih28 _ ?_ (i + 1) hlt28 rfl)
              · first | (rw [eg_3, eg_2, eg_1]; rfl) | fail
              · first | (first | rfl | (simp only [nI_s]; done) | (simp only [nI_s, it_s]; done) | (simp [nI_s, it_s, zc8, zc32, zc43, zc73]; done)) | fail
              · first | (omega) | fail
            · skip
              refine j_aload_n hx d_Winter_live_76 rfl 3 rfl ?_
              refine j_aload_n hx d_Winter_live_77 rfl 1 rfl ?_
              refine j_aload_n hx d_Winter_live_78 rfl 2 rfl ?_
              refine j_aload_n hx d_Winter_live_79 rfl 0 rfl ?_
              refine j_get hx ck_Winter 0 (by decide) t_290 (by decide) (sh_98 _ _) rfl d_Winter_live_80 ?_
              refine j_aload_n hx d_Winter_live_83 rfl 0 rfl ?_
              refine j_iload hx d_Winter_live_84 6 rfl ?_
              refine j_callVi hx (c_Winter_draw hG s9_2 w6) mo_Winter_draw mv_Winter_draw t_1365 (by decide) rfl (by decide) (sh_98 _ _) rfl rfl (Nat.le_of_ble_eq_true rfl) d_Winter_live_86 ?_
              refine j_callVv hx (c_Passing_pass hG isNights_99 (drS s9_2) (drV s9_2 w6)) mo_Passing_pass mv_Passing_pass t_1373 (by decide) rfl (by decide) (sh_84 _ _) rfl rfl (Nat.le_of_ble_eq_true rfl) d_Winter_live_89 ?_
              obtain ⟨s9_3, eg_3⟩ : ∃ z : St, z = wl3 s9_2 w6 := ⟨_, rfl⟩
              refine J.to (σ' := s9_3) (by rw [eg_3]; first | exact (if_pos zc73).symm | exact (if_neg zc73).symm) rfl ?_
              refine j_aload_n hx d_Winter_live_92 rfl 0 rfl ?_
              refine j_get hx ck_Winter 0 (by decide) t_290 (by decide) (sh_98 _ _) rfl d_Winter_live_93 ?_
              refine j_callVi hx (c_Nights_nextNight hG isNights_99 s9_3) mo_Nights_nextNight mv_Nights_nextNight t_1374 (by decide) rfl (by decide) (sh_99 _ _) rfl rfl (Nat.le_of_ble_eq_true rfl) d_Winter_live_96 ?_
              refine j_pop hx d_Winter_live_99 rfl ?_
              refine j_iinc hx [(7, .int ((nI i) + 1)), (0, .ref (G.1 98)), (1, .ref (G.1 4)), (2, .ref (G.1 50)), (3, .ref (G.1 84)), (4, .int many), (5, .int q), (6, .int w6)] d_Winter_live_100 7 rfl rfl (by decide) rfl ?_
              refine j_goto (tgt := 28) hx d_Winter_live_103 (by decide) ?_
              refine J.lsub (ls' := [(0, .ref (G.1 98)), (1, .ref (G.1 4)), (2, .ref (G.1 50)), (3, .ref (G.1 84)), (4, .int many), (5, .int q), (6, .int w6), (7, .int ((nI i) + 1))]) [1, 2, 3, 4, 5, 6, 7, 0] rfl ?_
              refine J.to ?_ ?_ (ih28 _ ?_ (i + 1) hlt28 rfl)
              · first | (rw [eg_3, eg_2, eg_1]; rfl) | fail
              · first | (first | rfl | (simp only [nI_s]; done) | (simp only [nI_s, it_s]; done) | (simp [nI_s, it_s, zc8, zc32, zc43, zc73]; done)) | fail
              · first | (omega) | fail
          · skip
            refine j_aload_n hx d_Winter_live_46 rfl 0 rfl ?_
            refine j_get hx ck_Winter 0 (by decide) t_290 (by decide) (sh_98 _ _) rfl d_Winter_live_47 ?_
            refine j_callVi hx (c_Nights_fogComes hG isNights_99 (drS (wlv σ w6 q i))) mo_Nights_fogComes mv_Nights_fogComes t_1371 (by decide) rfl (by decide) (sh_99 _ _) rfl rfl (Nat.le_of_ble_eq_true rfl) d_Winter_live_50 ?_
            refine j_pop hx d_Winter_live_53 rfl ?_
            obtain ⟨s9_1, eg_1⟩ : ∃ z : St, z = wl1 (wlv σ w6 q i) q := ⟨_, rfl⟩
            refine J.to (σ' := s9_1) (by rw [eg_1]; first | exact (if_pos zc43).symm | exact (if_neg zc43).symm) rfl ?_
            refine j_aload_n hx d_Winter_live_54 rfl 0 rfl ?_
            refine j_dup hx d_Winter_live_55 rfl ?_
            refine j_get hx ck_Winter 2 (by decide) t_292 (by decide) (sh_98 _ _) rfl d_Winter_live_56 ?_
            refine j_aload_n hx d_Winter_live_59 rfl 0 rfl ?_
            refine j_get hx ck_Winter 0 (by decide) t_290 (by decide) (sh_98 _ _) rfl d_Winter_live_60 ?_
            refine j_iconst (v := 1) hx d_Winter_live_63 (by decide) ?_
            refine j_callVi hx (c_Nights_get hG isNights_99 s9_1 1) mo_Nights_get mv_Nights_get t_1372 (by decide) rfl (by decide) (sh_99 _ _) rfl rfl (Nat.le_of_ble_eq_true rfl) d_Winter_live_64 ?_
            refine j_iadd hx d_Winter_live_67 ?_
            refine j_put hx ck_Winter 2 (by decide) t_292 (by decide) (sh_98 _ _) rfl (Nat.le_of_ble_eq_true rfl) (sh_98 _ _) d_Winter_live_68 ?_
            obtain ⟨s9_2, eg_2⟩ : ∃ z : St, z = wl2 s9_1 := ⟨_, rfl⟩
            refine J.to (σ' := s9_2) (by rw [eg_2]; first | done | rfl) rfl ?_
            refine j_iload hx d_Winter_live_71 6 rfl ?_
            refine j_if_le (tgt := 92) hx d_Winter_live_73 (by decide) (fun zc73 => ?_) (fun zc73 => ?_)
            · skip
              obtain ⟨s9_3, eg_3⟩ : ∃ z : St, z = wl3 s9_2 w6 := ⟨_, rfl⟩
              refine J.to (σ' := s9_3) (by rw [eg_3]; first | exact (if_pos zc73).symm | exact (if_neg zc73).symm) rfl ?_
              refine j_aload_n hx d_Winter_live_92 rfl 0 rfl ?_
              refine j_get hx ck_Winter 0 (by decide) t_290 (by decide) (sh_98 _ _) rfl d_Winter_live_93 ?_
              refine j_callVi hx (c_Nights_nextNight hG isNights_99 s9_3) mo_Nights_nextNight mv_Nights_nextNight t_1374 (by decide) rfl (by decide) (sh_99 _ _) rfl rfl (Nat.le_of_ble_eq_true rfl) d_Winter_live_96 ?_
              refine j_pop hx d_Winter_live_99 rfl ?_
              refine j_iinc hx [(7, .int ((nI i) + 1)), (0, .ref (G.1 98)), (1, .ref (G.1 4)), (2, .ref (G.1 50)), (3, .ref (G.1 84)), (4, .int many), (5, .int q), (6, .int w6)] d_Winter_live_100 7 rfl rfl (by decide) rfl ?_
              refine j_goto (tgt := 28) hx d_Winter_live_103 (by decide) ?_
              refine J.lsub (ls' := [(0, .ref (G.1 98)), (1, .ref (G.1 4)), (2, .ref (G.1 50)), (3, .ref (G.1 84)), (4, .int many), (5, .int q), (6, .int w6), (7, .int ((nI i) + 1))]) [1, 2, 3, 4, 5, 6, 7, 0] rfl ?_
              refine J.to ?_ ?_ (ih28 _ ?_ (i + 1) hlt28 rfl)
              · first | (rw [eg_3, eg_2, eg_1]; rfl) | fail
              · first | (first | rfl | (simp only [nI_s]; done) | (simp only [nI_s, it_s]; done) | (simp [nI_s, it_s, zc8, zc32, zc43, zc73]; done)) | fail
              · first | (omega) | fail
            · skip
              refine j_aload_n hx d_Winter_live_76 rfl 3 rfl ?_
              refine j_aload_n hx d_Winter_live_77 rfl 1 rfl ?_
              refine j_aload_n hx d_Winter_live_78 rfl 2 rfl ?_
              refine j_aload_n hx d_Winter_live_79 rfl 0 rfl ?_
              refine j_get hx ck_Winter 0 (by decide) t_290 (by decide) (sh_98 _ _) rfl d_Winter_live_80 ?_
              refine j_aload_n hx d_Winter_live_83 rfl 0 rfl ?_
              refine j_iload hx d_Winter_live_84 6 rfl ?_
              refine j_callVi hx (c_Winter_draw hG s9_2 w6) mo_Winter_draw mv_Winter_draw t_1365 (by decide) rfl (by decide) (sh_98 _ _) rfl rfl (Nat.le_of_ble_eq_true rfl) d_Winter_live_86 ?_
              refine j_callVv hx (c_Passing_pass hG isNights_99 (drS s9_2) (drV s9_2 w6)) mo_Passing_pass mv_Passing_pass t_1373 (by decide) rfl (by decide) (sh_84 _ _) rfl rfl (Nat.le_of_ble_eq_true rfl) d_Winter_live_89 ?_
              obtain ⟨s9_3, eg_3⟩ : ∃ z : St, z = wl3 s9_2 w6 := ⟨_, rfl⟩
              refine J.to (σ' := s9_3) (by rw [eg_3]; first | exact (if_pos zc73).symm | exact (if_neg zc73).symm) rfl ?_
              refine j_aload_n hx d_Winter_live_92 rfl 0 rfl ?_
              refine j_get hx ck_Winter 0 (by decide) t_290 (by decide) (sh_98 _ _) rfl d_Winter_live_93 ?_
              refine j_callVi hx (c_Nights_nextNight hG isNights_99 s9_3) mo_Nights_nextNight mv_Nights_nextNight t_1374 (by decide) rfl (by decide) (sh_99 _ _) rfl rfl (Nat.le_of_ble_eq_true rfl) d_Winter_live_96 ?_
              refine j_pop hx d_Winter_live_99 rfl ?_
              refine j_iinc hx [(7, .int ((nI i) + 1)), (0, .ref (G.1 98)), (1, .ref (G.1 4)), (2, .ref (G.1 50)), (3, .ref (G.1 84)), (4, .int many), (5, .int q), (6, .int w6)] d_Winter_live_100 7 rfl rfl (by decide) rfl ?_
              refine j_goto (tgt := 28) hx d_Winter_live_103 (by decide) ?_
              refine J.lsub (ls' := [(0, .ref (G.1 98)), (1, .ref (G.1 4)), (2, .ref (G.1 50)), (3, .ref (G.1 84)), (4, .int many), (5, .int q), (6, .int w6), (7, .int ((nI i) + 1))]) [1, 2, 3, 4, 5, 6, 7, 0] rfl ?_
              refine J.to ?_ ?_ (ih28 _ ?_ (i + 1) hlt28 rfl)
              · first | (rw [eg_3, eg_2, eg_1]; rfl) | fail
              · first | (first | rfl | (simp only [nI_s]; done) | (simp only [nI_s, it_s]; done) | (simp [nI_s, it_s, zc8, zc32, zc43, zc73]; done)) | fail
              · first | (omega) | fail
    refine J.lsub (ls' := [(0, .ref (G.1 98)), (1, .ref (G.1 4)), (2, .ref (G.1 50)), (3, .ref (G.1 84)), (4, .int many), (5, .int q), (6, .int w6), (7, .int 0)]) [2, 3, 4, 5, 6, 7, 1, 0] rfl ?_
    refine J.to ?_ ?_ (hl28 _ 0 (Nat.zero_le _) rfl)
    · first | (rfl) | fail
    · first | (first | rfl | (simp only [nI_s]; done) | (simp only [nI_s, it_s]; done) | (simp [nI_s, it_s, zc8]; done)) | fail

set_option maxRecDepth 20000 in
set_option maxHeartbeats 4000000 in
theorem c_History_reset {l : Launch} {G : Gz} (hG : zI G) (σ : St) : MV l G y_History_reset prog_4_method_2_code 1 1 [.ref (G.1 102)] σ (up (up σ 102 3 0) 102 4 0) := by
  refine MV.of hG (by decide) (Nat.le_of_ble_eq_true rfl) (fun X hx hq => ?_)
  show J l G X 1 σ 0 [(0, .ref (G.1 102))] []
  refine j_aload_n hx d_History_reset_0 rfl 0 rfl ?_
  refine j_iconst (v := 0) hx d_History_reset_1 (by decide) ?_
  refine j_put hx ck_History 3 (by decide) t_311 (by decide) (sh_102 _ _) rfl (Nat.le_of_ble_eq_true rfl) (sh_102 _ _) d_History_reset_2 ?_
  refine j_aload_n hx d_History_reset_5 rfl 0 rfl ?_
  refine j_iconst (v := 0) hx d_History_reset_6 (by decide) ?_
  refine j_put hx ck_History 4 (by decide) t_312 (by decide) (sh_102 _ _) rfl (Nat.le_of_ble_eq_true rfl) (sh_102 _ _) d_History_reset_7 ?_
  exact j_vret hx hq d_History_reset_10 (by first | (first | rfl | (simp only []; done) | (simp []; done)) | fail)

set_option maxRecDepth 20000 in
set_option maxHeartbeats 4000000 in
theorem c_History_works {l : Launch} {G : Gz} (hG : zI G) (σ : St) : MI l G y_History_works prog_4_method_3_code 1 .int 1 [.ref (G.1 102)] σ (σ 102 3) σ := by
  refine MI.of hG (by decide) (Nat.le_of_ble_eq_true rfl) (fun X hx hq => ?_)
  show J l G X 1 σ 0 [(0, .ref (G.1 102))] []
  refine j_aload_n hx d_History_works_0 rfl 0 rfl ?_
  refine j_get hx ck_History 3 (by decide) t_311 (by decide) (sh_102 _ _) rfl d_History_works_1 ?_
  exact j_iret hx hq rfl d_History_works_4 (by first | (first | rfl | (simp only []; done) | (simp []; done)) | fail) (by first | (first | rfl | (simp only []; done) | (simp []; done)) | fail)

set_option maxRecDepth 20000 in
set_option maxHeartbeats 4000000 in
theorem c_History_images {l : Launch} {G : Gz} (hG : zI G) (σ : St) : MI l G y_History_images prog_4_method_4_code 1 .int 1 [.ref (G.1 102)] σ (σ 102 4) σ := by
  refine MI.of hG (by decide) (Nat.le_of_ble_eq_true rfl) (fun X hx hq => ?_)
  show J l G X 1 σ 0 [(0, .ref (G.1 102))] []
  refine j_aload_n hx d_History_images_0 rfl 0 rfl ?_
  refine j_get hx ck_History 4 (by decide) t_312 (by decide) (sh_102 _ _) rfl d_History_images_1 ?_
  exact j_iret hx hq rfl d_History_images_4 (by first | (first | rfl | (simp only []; done) | (simp []; done)) | fail) (by first | (first | rfl | (simp only []; done) | (simp []; done)) | fail)

set_option maxRecDepth 20000 in
set_option maxHeartbeats 4000000 in
theorem c_History_keepWork {l : Launch} {G : Gz} (hG : zI G) (σ : St) : MV l G y_History_keepWork prog_4_method_5_code 2 3 [.ref (G.1 102), .ref (G.1 81)] σ (kwS σ) := by
  refine MV.of hG (by decide) (Nat.le_of_ble_eq_true rfl) (fun X hx hq => ?_)
  show J l G X 2 σ 0 [(0, .ref (G.1 102)), (1, .ref (G.1 81))] []
  refine j_aload_n hx d_History_keepWork_0 rfl 0 rfl ?_
  refine j_get hx ck_History 0 (by decide) t_308 (by decide) (sh_102 _ _) rfl d_History_keepWork_1 ?_
  refine j_aload_n hx d_History_keepWork_4 rfl 1 rfl ?_
  refine j_get hx ck_Nights 0 (by decide) t_229 (by decide) (sh_81 _ _) rfl d_History_keepWork_5 ?_
  refine j_iconst (v := 0) hx d_History_keepWork_8 (by decide) ?_
  refine j_aload_n hx d_History_keepWork_9 rfl 0 rfl ?_
  refine j_get hx ck_History 3 (by decide) t_311 (by decide) (sh_102 _ _) rfl d_History_keepWork_10 ?_
  refine j_bipush (v := 29) hx d_History_keepWork_13 (by decide) ?_
  refine j_imul hx d_History_keepWork_15 ?_
  refine j_bipush (v := 29) hx d_History_keepWork_16 (by decide) ?_
  refine j_callVv hx (c_Row_copyFrom hG ir_103 ir_82 σ 0 ((σ 102 3) * 29) 29) mo_Row_copyFrom mv_Row_copyFrom t_411 (by decide) rfl (by decide) (sh_103 _ _) rfl rfl (Nat.le_of_ble_eq_true rfl) d_History_keepWork_18 ?_
  refine j_aload_n hx d_History_keepWork_21 rfl 0 rfl ?_
  refine j_dup hx d_History_keepWork_22 rfl ?_
  refine j_get hx ck_History 3 (by decide) t_311 (by decide) (sh_102 _ _) rfl d_History_keepWork_23 ?_
  refine j_iconst (v := 1) hx d_History_keepWork_26 (by decide) ?_
  refine j_iadd hx d_History_keepWork_27 ?_
  refine j_put hx ck_History 3 (by decide) t_311 (by decide) (sh_102 _ _) rfl (Nat.le_of_ble_eq_true rfl) (sh_102 _ _) d_History_keepWork_28 ?_
  exact j_vret hx hq d_History_keepWork_31 (by first | (first | rfl | (simp only []; done) | (simp []; done)) | fail)

set_option maxRecDepth 20000 in
set_option maxHeartbeats 4000000 in
theorem c_History_undoWork {l : Launch} {G : Gz} (hG : zI G) (σ : St) : MI l G y_History_undoWork prog_4_method_6_code 2 .int 3 [.ref (G.1 102), .ref (G.1 81)] σ ((uwS σ) 102 3) (uwS σ) := by
  refine MI.of hG (by decide) (Nat.le_of_ble_eq_true rfl) (fun X hx hq => ?_)
  show J l G X 2 σ 0 [(0, .ref (G.1 102)), (1, .ref (G.1 81))] []
  refine j_aload_n hx d_History_undoWork_0 rfl 0 rfl ?_
  refine j_dup hx d_History_undoWork_1 rfl ?_
  refine j_get hx ck_History 3 (by decide) t_311 (by decide) (sh_102 _ _) rfl d_History_undoWork_2 ?_
  refine j_iconst (v := 1) hx d_History_undoWork_5 (by decide) ?_
  refine j_isub hx d_History_undoWork_6 ?_
  refine j_put hx ck_History 3 (by decide) t_311 (by decide) (sh_102 _ _) rfl (Nat.le_of_ble_eq_true rfl) (sh_102 _ _) d_History_undoWork_7 ?_
  refine j_aload_n hx d_History_undoWork_10 rfl 1 rfl ?_
  refine j_get hx ck_Nights 0 (by decide) t_229 (by decide) (sh_81 _ _) rfl d_History_undoWork_11 ?_
  refine j_aload_n hx d_History_undoWork_14 rfl 0 rfl ?_
  refine j_get hx ck_History 0 (by decide) t_308 (by decide) (sh_102 _ _) rfl d_History_undoWork_15 ?_
  refine j_aload_n hx d_History_undoWork_18 rfl 0 rfl ?_
  refine j_get hx ck_History 3 (by decide) t_311 (by decide) (sh_102 _ _) rfl d_History_undoWork_19 ?_
  refine j_bipush (v := 29) hx d_History_undoWork_22 (by decide) ?_
  refine j_imul hx d_History_undoWork_24 ?_
  refine j_iconst (v := 0) hx d_History_undoWork_25 (by decide) ?_
  refine j_bipush (v := 29) hx d_History_undoWork_26 (by decide) ?_
  refine j_callVv hx (c_Row_copyFrom hG ir_82 ir_103 (up σ 102 3 ((σ 102 3) - 1)) (((up σ 102 3 ((σ 102 3) - 1)) 102 3) * 29) 0 29) mo_Row_copyFrom mv_Row_copyFrom t_411 (by decide) rfl (by decide) (sh_82 _ _) rfl rfl (Nat.le_of_ble_eq_true rfl) d_History_undoWork_28 ?_
  refine j_aload_n hx d_History_undoWork_31 rfl 0 rfl ?_
  refine j_get hx ck_History 3 (by decide) t_311 (by decide) (sh_102 _ _) rfl d_History_undoWork_32 ?_
  exact j_iret hx hq rfl d_History_undoWork_35 (by first | (first | rfl | (simp only []; done) | (simp []; done)) | fail) (by first | (first | rfl | (simp only []; done) | (simp []; done)) | fail)

set_option maxRecDepth 20000 in
set_option maxHeartbeats 4000000 in
theorem c_History_keepImage {l : Launch} {G : Gz} (hG : zI G) (σ : St) : MI l G y_History_keepImage prog_4_method_7_code 3 .int 3 [.ref (G.1 102), .ref (G.1 81)] σ ((kiS σ) 102 4) (kiS σ) := by
  refine MI.of hG (by decide) (Nat.le_of_ble_eq_true rfl) (fun X hx hq => ?_)
  show J l G X 3 σ 0 [(0, .ref (G.1 102)), (1, .ref (G.1 81))] []
  refine j_aload_n hx d_History_keepImage_0 rfl 0 rfl ?_
  refine j_get hx ck_History 4 (by decide) t_312 (by decide) (sh_102 _ _) rfl d_History_keepImage_1 ?_
  refine j_sipush (v := 493) hx d_History_keepImage_4 (by decide) ?_
  refine j_imul hx d_History_keepImage_7 ?_
  refine j_istore_n hx [(2, .int ((σ 102 4) * 493)), (0, .ref (G.1 102)), (1, .ref (G.1 81))] d_History_keepImage_8 rfl (by decide) rfl ?_
  refine j_aload_n hx d_History_keepImage_9 rfl 1 rfl ?_
  refine j_get hx ck_History 1 (by decide) t_309 (by decide) (sh_102 _ _) rfl d_History_keepImage_10 ?_
  refine j_aload_n hx d_History_keepImage_13 rfl 1 rfl ?_
  refine j_get hx ck_History 0 (by decide) t_308 (by decide) (sh_102 _ _) rfl d_History_keepImage_14 ?_
  refine j_iconst (v := 0) hx d_History_keepImage_17 (by decide) ?_
  refine j_iload_n hx d_History_keepImage_18 rfl 0 rfl ?_
  refine j_sipush (v := 464) hx d_History_keepImage_19 (by decide) ?_
  refine j_callVv hx (c_Row_copyFrom hG ir_105 ir_103 σ 0 ((σ 102 4) * 493) 464) mo_Row_copyFrom mv_Row_copyFrom t_411 (by decide) rfl (by decide) (sh_105 _ _) rfl rfl (Nat.le_of_ble_eq_true rfl) d_History_keepImage_22 ?_
  refine j_aload_n hx d_History_keepImage_25 rfl 1 rfl ?_
  refine j_get hx ck_History 1 (by decide) t_309 (by decide) (sh_102 _ _) rfl d_History_keepImage_26 ?_
  refine j_aload_n hx d_History_keepImage_29 rfl 2 rfl ?_
  refine j_get hx ck_Nights 0 (by decide) t_229 (by decide) (sh_81 _ _) rfl d_History_keepImage_30 ?_
  refine j_iconst (v := 0) hx d_History_keepImage_33 (by decide) ?_
  refine j_iload_n hx d_History_keepImage_34 rfl 0 rfl ?_
  refine j_sipush (v := 464) hx d_History_keepImage_35 (by decide) ?_
  refine j_iadd hx d_History_keepImage_38 ?_
  refine j_bipush (v := 29) hx d_History_keepImage_39 (by decide) ?_
  refine j_callVv hx (c_Row_copyFrom hG ir_105 ir_82 (cpy σ 105 1479 103 464 0 ((σ 102 4) * 493) 464) 0 (((σ 102 4) * 493) + 464) 29) mo_Row_copyFrom mv_Row_copyFrom t_411 (by decide) rfl (by decide) (sh_105 _ _) rfl rfl (Nat.le_of_ble_eq_true rfl) d_History_keepImage_41 ?_
  refine j_aload_n hx d_History_keepImage_44 rfl 1 rfl ?_
  refine j_get hx ck_History 2 (by decide) t_310 (by decide) (sh_102 _ _) rfl d_History_keepImage_45 ?_
  refine j_aload_n hx d_History_keepImage_48 rfl 1 rfl ?_
  refine j_get hx ck_History 4 (by decide) t_312 (by decide) (sh_102 _ _) rfl d_History_keepImage_49 ?_
  refine j_aload_n hx d_History_keepImage_52 rfl 1 rfl ?_
  refine j_get hx ck_History 3 (by decide) t_311 (by decide) (sh_102 _ _) rfl d_History_keepImage_53 ?_
  refine j_callVv hx (c_Row_set hG ir_107 (cpy (cpy σ 105 1479 103 464 0 ((σ 102 4) * 493) 464) 105 1479 82 29 0 (((σ 102 4) * 493) + 464) 29) ((cpy (cpy σ 105 1479 103 464 0 ((σ 102 4) * 493) 464) 105 1479 82 29 0 (((σ 102 4) * 493) + 464) 29) 102 4) ((cpy (cpy σ 105 1479 103 464 0 ((σ 102 4) * 493) 464) 105 1479 82 29 0 (((σ 102 4) * 493) + 464) 29) 102 3)) mo_Row_set mv_Row_set t_531 (by decide) rfl (by decide) (sh_107 _ _) rfl rfl (Nat.le_of_ble_eq_true rfl) d_History_keepImage_56 ?_
  refine j_aload_n hx d_History_keepImage_59 rfl 1 rfl ?_
  refine j_dup hx d_History_keepImage_60 rfl ?_
  refine j_get hx ck_History 4 (by decide) t_312 (by decide) (sh_102 _ _) rfl d_History_keepImage_61 ?_
  refine j_iconst (v := 1) hx d_History_keepImage_64 (by decide) ?_
  refine j_iadd hx d_History_keepImage_65 ?_
  refine j_put hx ck_History 4 (by decide) t_312 (by decide) (sh_102 _ _) rfl (Nat.le_of_ble_eq_true rfl) (sh_102 _ _) d_History_keepImage_66 ?_
  refine j_aload_n hx d_History_keepImage_69 rfl 1 rfl ?_
  refine j_get hx ck_History 4 (by decide) t_312 (by decide) (sh_102 _ _) rfl d_History_keepImage_70 ?_
  exact j_iret hx hq rfl d_History_keepImage_73 (by first | (rfl) | fail) (by first | (rfl) | fail)

set_option maxRecDepth 20000 in
set_option maxHeartbeats 4000000 in
theorem c_History_takeImage {l : Launch} {G : Gz} (hG : zI G) (σ : St) : MI l G y_History_takeImage prog_4_method_8_code 3 .int 3 [.ref (G.1 102), .ref (G.1 81)] σ ((tiS σ) 102 4) (tiS σ) := by
  refine MI.of hG (by decide) (Nat.le_of_ble_eq_true rfl) (fun X hx hq => ?_)
  show J l G X 3 σ 0 [(0, .ref (G.1 102)), (1, .ref (G.1 81))] []
  refine j_aload_n hx d_History_takeImage_0 rfl 0 rfl ?_
  refine j_dup hx d_History_takeImage_1 rfl ?_
  refine j_get hx ck_History 4 (by decide) t_312 (by decide) (sh_102 _ _) rfl d_History_takeImage_2 ?_
  refine j_iconst (v := 1) hx d_History_takeImage_5 (by decide) ?_
  refine j_isub hx d_History_takeImage_6 ?_
  refine j_put hx ck_History 4 (by decide) t_312 (by decide) (sh_102 _ _) rfl (Nat.le_of_ble_eq_true rfl) (sh_102 _ _) d_History_takeImage_7 ?_
  refine j_aload_n hx d_History_takeImage_10 rfl 0 rfl ?_
  refine j_get hx ck_History 4 (by decide) t_312 (by decide) (sh_102 _ _) rfl d_History_takeImage_11 ?_
  refine j_sipush (v := 493) hx d_History_takeImage_14 (by decide) ?_
  refine j_imul hx d_History_takeImage_17 ?_
  refine j_istore_n hx [(2, .int (((up σ 102 4 ((σ 102 4) - 1)) 102 4) * 493)), (0, .ref (G.1 102)), (1, .ref (G.1 81))] d_History_takeImage_18 rfl (by decide) rfl ?_
  refine j_aload_n hx d_History_takeImage_19 rfl 1 rfl ?_
  refine j_get hx ck_History 0 (by decide) t_308 (by decide) (sh_102 _ _) rfl d_History_takeImage_20 ?_
  refine j_aload_n hx d_History_takeImage_23 rfl 1 rfl ?_
  refine j_get hx ck_History 1 (by decide) t_309 (by decide) (sh_102 _ _) rfl d_History_takeImage_24 ?_
  refine j_iload_n hx d_History_takeImage_27 rfl 0 rfl ?_
  refine j_iconst (v := 0) hx d_History_takeImage_28 (by decide) ?_
  refine j_sipush (v := 464) hx d_History_takeImage_29 (by decide) ?_
  refine j_callVv hx (c_Row_copyFrom hG ir_103 ir_105 (up σ 102 4 ((σ 102 4) - 1)) (((up σ 102 4 ((σ 102 4) - 1)) 102 4) * 493) 0 464) mo_Row_copyFrom mv_Row_copyFrom t_411 (by decide) rfl (by decide) (sh_103 _ _) rfl rfl (Nat.le_of_ble_eq_true rfl) d_History_takeImage_32 ?_
  refine j_aload_n hx d_History_takeImage_35 rfl 2 rfl ?_
  refine j_get hx ck_Nights 0 (by decide) t_229 (by decide) (sh_81 _ _) rfl d_History_takeImage_36 ?_
  refine j_aload_n hx d_History_takeImage_39 rfl 1 rfl ?_
  refine j_get hx ck_History 1 (by decide) t_309 (by decide) (sh_102 _ _) rfl d_History_takeImage_40 ?_
  refine j_iload_n hx d_History_takeImage_43 rfl 0 rfl ?_
  refine j_sipush (v := 464) hx d_History_takeImage_44 (by decide) ?_
  refine j_iadd hx d_History_takeImage_47 ?_
  refine j_iconst (v := 0) hx d_History_takeImage_48 (by decide) ?_
  refine j_bipush (v := 29) hx d_History_takeImage_49 (by decide) ?_
  refine j_callVv hx (c_Row_copyFrom hG ir_82 ir_105 (cpy (up σ 102 4 ((σ 102 4) - 1)) 103 464 105 1479 (((up σ 102 4 ((σ 102 4) - 1)) 102 4) * 493) 0 464) ((((up σ 102 4 ((σ 102 4) - 1)) 102 4) * 493) + 464) 0 29) mo_Row_copyFrom mv_Row_copyFrom t_411 (by decide) rfl (by decide) (sh_82 _ _) rfl rfl (Nat.le_of_ble_eq_true rfl) d_History_takeImage_51 ?_
  refine j_aload_n hx d_History_takeImage_54 rfl 1 rfl ?_
  refine j_aload_n hx d_History_takeImage_55 rfl 1 rfl ?_
  refine j_get hx ck_History 2 (by decide) t_310 (by decide) (sh_102 _ _) rfl d_History_takeImage_56 ?_
  refine j_aload_n hx d_History_takeImage_59 rfl 1 rfl ?_
  refine j_get hx ck_History 4 (by decide) t_312 (by decide) (sh_102 _ _) rfl d_History_takeImage_60 ?_
  refine j_callVi hx (c_Row_getA hG ir_107 108 rfl (cpy (cpy (up σ 102 4 ((σ 102 4) - 1)) 103 464 105 1479 (((up σ 102 4 ((σ 102 4) - 1)) 102 4) * 493) 0 464) 82 29 105 1479 ((((up σ 102 4 ((σ 102 4) - 1)) 102 4) * 493) + 464) 0 29) ((cpy (cpy (up σ 102 4 ((σ 102 4) - 1)) 103 464 105 1479 (((up σ 102 4 ((σ 102 4) - 1)) 102 4) * 493) 0 464) 82 29 105 1479 ((((up σ 102 4 ((σ 102 4) - 1)) 102 4) * 493) + 464) 0 29) 102 4)) mo_Row_get mv_Row_get t_540 (by decide) rfl (by decide) (sh_107 _ _) rfl rfl (Nat.le_of_ble_eq_true rfl) d_History_takeImage_63 ?_
  refine j_put hx ck_History 3 (by decide) t_311 (by decide) (sh_102 _ _) rfl (Nat.le_of_ble_eq_true rfl) (sh_102 _ _) d_History_takeImage_66 ?_
  refine j_aload_n hx d_History_takeImage_69 rfl 1 rfl ?_
  refine j_get hx ck_History 4 (by decide) t_312 (by decide) (sh_102 _ _) rfl d_History_takeImage_70 ?_
  exact j_iret hx hq rfl d_History_takeImage_73 (by first | (rfl) | fail) (by first | (rfl) | fail)

set_option maxRecDepth 20000 in
set_option maxHeartbeats 4000000 in
theorem c_Plans_worth {l : Launch} {G : Gz} (hG : zI G) (σ : St) : MI l G y_Plans_worth prog_8_method_2_code 1 .int 1 [.ref (G.1 93)] σ (σ 93 2) σ := by
  refine MI.of hG (by decide) (Nat.le_of_ble_eq_true rfl) (fun X hx hq => ?_)
  show J l G X 1 σ 0 [(0, .ref (G.1 93))] []
  refine j_aload_n hx d_Plans_worth_0 rfl 0 rfl ?_
  refine j_get hx ck_Plans 2 (by decide) t_265 (by decide) (sh_93 _ _) rfl d_Plans_worth_1 ?_
  exact j_iret hx hq rfl d_Plans_worth_4 (by first | (first | rfl | (simp only []; done) | (simp []; done)) | fail) (by first | (first | rfl | (simp only []; done) | (simp []; done)) | fail)

set_option maxRecDepth 20000 in
set_option maxHeartbeats 4000000 in
theorem c_Plans_donkeyCells {l : Launch} {G : Gz} (hG : zI G) (σ : St) : MI l G y_Plans_donkeyCells prog_8_method_3_code 1 .int 1 [.ref (G.1 93)] σ (σ 93 3) σ := by
  refine MI.of hG (by decide) (Nat.le_of_ble_eq_true rfl) (fun X hx hq => ?_)
  show J l G X 1 σ 0 [(0, .ref (G.1 93))] []
  refine j_aload_n hx d_Plans_donkeyCells_0 rfl 0 rfl ?_
  refine j_get hx ck_Plans 3 (by decide) t_266 (by decide) (sh_93 _ _) rfl d_Plans_donkeyCells_1 ?_
  exact j_iret hx hq rfl d_Plans_donkeyCells_4 (by first | (first | rfl | (simp only []; done) | (simp []; done)) | fail) (by first | (first | rfl | (simp only []; done) | (simp []; done)) | fail)

set_option maxRecDepth 20000 in
set_option maxHeartbeats 4000000 in
theorem c_Plans_lampCell {l : Launch} {G : Gz} (hG : zI G) (σ : St) : MI l G y_Plans_lampCell prog_8_method_4_code 1 .int 1 [.ref (G.1 93)] σ (σ 93 4) σ := by
  refine MI.of hG (by decide) (Nat.le_of_ble_eq_true rfl) (fun X hx hq => ?_)
  show J l G X 1 σ 0 [(0, .ref (G.1 93))] []
  refine j_aload_n hx d_Plans_lampCell_0 rfl 0 rfl ?_
  refine j_get hx ck_Plans 4 (by decide) t_267 (by decide) (sh_93 _ _) rfl d_Plans_lampCell_1 ?_
  exact j_iret hx hq rfl d_Plans_lampCell_4 (by first | (first | rfl | (simp only []; done) | (simp []; done)) | fail) (by first | (first | rfl | (simp only []; done) | (simp []; done)) | fail)

set_option maxRecDepth 20000 in
set_option maxHeartbeats 4000000 in
theorem c_Plans_lampPeriod {l : Launch} {G : Gz} (hG : zI G) (σ : St) : MI l G y_Plans_lampPeriod prog_8_method_5_code 1 .int 1 [.ref (G.1 93)] σ (σ 93 5) σ := by
  refine MI.of hG (by decide) (Nat.le_of_ble_eq_true rfl) (fun X hx hq => ?_)
  show J l G X 1 σ 0 [(0, .ref (G.1 93))] []
  refine j_aload_n hx d_Plans_lampPeriod_0 rfl 0 rfl ?_
  refine j_get hx ck_Plans 5 (by decide) t_268 (by decide) (sh_93 _ _) rfl d_Plans_lampPeriod_1 ?_
  exact j_iret hx hq rfl d_Plans_lampPeriod_4 (by first | (first | rfl | (simp only []; done) | (simp []; done)) | fail) (by first | (first | rfl | (simp only []; done) | (simp []; done)) | fail)

set_option maxRecDepth 20000 in
set_option maxHeartbeats 4000000 in
theorem c_Plans_parishCargo {l : Launch} {G : Gz} (hG : zI G) (σ : St) (ships : Int32) : MI l G y_Plans_parishCargo prog_8_method_10_code 6 .int 5 [.ref (G.1 4), .ref (G.1 50), .ref (G.1 84), .int ships] σ ((pqF σ ships (ct (cM σ 3))).1) ((pqF σ ships (ct (cM σ 3))).2) := by
  refine MI.of hG (by decide) (Nat.le_of_ble_eq_true rfl) (fun X hx hq => ?_)
  show J l G X 6 σ 0 [(0, .ref (G.1 4)), (1, .ref (G.1 50)), (2, .ref (G.1 84)), (3, .int ships)] []
  refine j_iconst (v := 0) hx d_Plans_parishCargo_0 (by decide) ?_
  refine j_istore hx [(4, .int 0), (0, .ref (G.1 4)), (1, .ref (G.1 50)), (2, .ref (G.1 84)), (3, .int ships)] d_Plans_parishCargo_1 (by decide) rfl ?_
  refine j_iconst (v := 0) hx d_Plans_parishCargo_3 (by decide) ?_
  refine j_istore hx [(5, .int 0), (4, .int 0), (0, .ref (G.1 4)), (1, .ref (G.1 50)), (2, .ref (G.1 84)), (3, .int ships)] d_Plans_parishCargo_4 (by decide) rfl ?_
  have hl6 : ∀ (N9 : Nat) (i : Nat), (i ≤ (ct (cM σ 3))) → (ct (cM σ 3)) - i = N9 → J l G X 6 ((pqF σ ships i).2) 6 [(0, .ref (G.1 4)), (1, .ref (G.1 50)), (2, .ref (G.1 84)), (3, .int ships), (4, .int ((pqF σ ships i).1)), (5, .int (nI i))] [] := by
    intro N9
    induction N9 using Nat.strongRecOn with
    | _ N9 ih6 =>
      intro i hi_i hm6
      refine j_iload hx d_Plans_parishCargo_6 5 rfl ?_
      refine j_aload_n hx d_Plans_parishCargo_8 rfl 0 rfl ?_
      refine j_get hx ck_Coast 0 (by decide) t_86 (by decide) (sh_4 _ _) rfl d_Plans_parishCargo_9 ?_
      refine j_iconst (v := 3) hx d_Plans_parishCargo_12 (by decide) ?_
      refine j_callVi hx (c_Row_getA hG ir_5 6 rfl ((pqF σ ships i).2) 3) mo_Row_get mv_Row_get t_1098 (by decide) rfl (by decide) (sh_5 _ _) rfl rfl (Nat.le_of_ble_eq_true rfl) d_Plans_parishCargo_13 ?_
      refine j_icmp_ge (tgt := 53) hx d_Plans_parishCargo_16 (by decide) (fun zc16 => ?_) (fun zc16 => ?_)
      · skip
        obtain rfl := ct_end' hi_i (by have q9 := zc16; rw [pqF_o (by decide) (by decide) (by decide) (by decide)] at q9; exact q9)
        refine j_iload hx d_Plans_parishCargo_53 4 rfl ?_
        exact j_iret hx hq rfl d_Plans_parishCargo_55 (by first | (first | rfl | (simp only [zc16]; done) | (simp [zc16]; done)) | fail) (by first | (first | rfl | (simp only [zc16]; done) | (simp [zc16]; done)) | fail)
      · skip
        have hlt6 := ct_go hi_i (by have q9 := zc16; rw [pqF_o (by decide) (by decide) (by decide) (by decide)] at q9; exact q9)
        refine j_iload_n hx d_Plans_parishCargo_19 rfl 3 rfl ?_
        refine j_iload hx d_Plans_parishCargo_20 5 rfl ?_
        refine j_callNi hx (c_DL_hasBit hG ((pqF σ ships i).2) ships (nI i)) mo_DL_hasBit t_455 t_1130 (by decide) rfl rfl (Nat.le_of_ble_eq_true rfl) d_Plans_parishCargo_22 ?_
        refine j_if_eq (tgt := 47) hx d_Plans_parishCargo_25 (by decide) (fun zc25 => ?_) (fun zc25 => ?_)
        · skip
          refine j_iinc hx [(5, .int ((nI i) + 1)), (0, .ref (G.1 4)), (1, .ref (G.1 50)), (2, .ref (G.1 84)), (3, .int ships), (4, .int ((pqF σ ships i).1))] d_Plans_parishCargo_47 5 rfl rfl (by decide) rfl ?_
          refine j_goto (tgt := 6) hx d_Plans_parishCargo_50 (by decide) ?_
          refine J.lsub (ls' := [(0, .ref (G.1 4)), (1, .ref (G.1 50)), (2, .ref (G.1 84)), (3, .int ships), (4, .int ((pqF σ ships i).1)), (5, .int ((nI i) + 1))]) [1, 2, 3, 4, 5, 0] rfl ?_
          refine J.to ?_ ?_ (ih6 _ ?_ (i + 1) hlt6 rfl)
          · first | (first | (rw [pqF_1 zc25]; done) | (rw [pqF_2 zc25]; done)) | fail
          · first | (simp only [nI_s]; first | (rw [pqF_1 zc25]; done) | (rw [pqF_2 zc25]; done)) | fail
          · first | (omega) | fail
        · skip
          refine j_iload hx d_Plans_parishCargo_28 4 rfl ?_
          refine j_aload_n hx d_Plans_parishCargo_30 rfl 0 rfl ?_
          refine j_iload hx d_Plans_parishCargo_31 5 rfl ?_
          refine j_aload_n hx d_Plans_parishCargo_33 rfl 2 rfl ?_
          refine j_aload_n hx d_Plans_parishCargo_34 rfl 0 rfl ?_
          refine j_aload_n hx d_Plans_parishCargo_35 rfl 1 rfl ?_
          refine j_iload hx d_Plans_parishCargo_36 5 rfl ?_
          refine j_callVi hx (c_Passing_struckIn hG ((pqF σ ships i).2) (nI i)) mo_Passing_struckIn mv_Passing_struckIn t_1131 (by decide) rfl (by decide) (sh_84 _ _) rfl rfl (Nat.le_of_ble_eq_true rfl) d_Plans_parishCargo_38 ?_
          refine j_callVi hx (c_Coast_parishCargo hG ((psk ((pqF σ ships i).2) (nI i)).2) (nI i) ((psk ((pqF σ ships i).2) (nI i)).1)) mo_Coast_parishCargo mv_Coast_parishCargo t_1132 (by decide) rfl (by decide) (sh_4 _ _) rfl rfl (Nat.le_of_ble_eq_true rfl) d_Plans_parishCargo_41 ?_
          refine j_iadd hx d_Plans_parishCargo_44 ?_
          refine j_istore hx [(4, .int (((pqF σ ships i).1) + (pcg ((psk ((pqF σ ships i).2) (nI i)).2) (nI i) ((psk ((pqF σ ships i).2) (nI i)).1)))), (0, .ref (G.1 4)), (1, .ref (G.1 50)), (2, .ref (G.1 84)), (3, .int ships), (5, .int (nI i))] d_Plans_parishCargo_45 (by decide) rfl ?_
          refine j_iinc hx [(5, .int ((nI i) + 1)), (4, .int (((pqF σ ships i).1) + (pcg ((psk ((pqF σ ships i).2) (nI i)).2) (nI i) ((psk ((pqF σ ships i).2) (nI i)).1)))), (0, .ref (G.1 4)), (1, .ref (G.1 50)), (2, .ref (G.1 84)), (3, .int ships)] d_Plans_parishCargo_47 5 rfl rfl (by decide) rfl ?_
          refine j_goto (tgt := 6) hx d_Plans_parishCargo_50 (by decide) ?_
          refine J.lsub (ls' := [(0, .ref (G.1 4)), (1, .ref (G.1 50)), (2, .ref (G.1 84)), (3, .int ships), (4, .int (((pqF σ ships i).1) + (pcg ((psk ((pqF σ ships i).2) (nI i)).2) (nI i) ((psk ((pqF σ ships i).2) (nI i)).1)))), (5, .int ((nI i) + 1))]) [2, 3, 4, 5, 1, 0] rfl ?_
          refine J.to ?_ ?_ (ih6 _ ?_ (i + 1) hlt6 rfl)
          · first | (first | (rw [pqF_1 zc25]; done) | (rw [pqF_2 zc25]; done)) | fail
          · first | (simp only [nI_s]; first | (rw [pqF_1 zc25]; done) | (rw [pqF_2 zc25]; done)) | fail
          · first | (omega) | fail
  refine J.lsub (ls' := [(0, .ref (G.1 4)), (1, .ref (G.1 50)), (2, .ref (G.1 84)), (3, .int ships), (4, .int 0), (5, .int 0)]) [2, 3, 4, 5, 1, 0] rfl ?_
  refine J.to ?_ ?_ (hl6 _ 0 (Nat.zero_le _) rfl)
  · first | (rfl) | fail
  · first | (rfl) | fail

set_option maxRecDepth 20000 in
set_option maxHeartbeats 4000000 in
theorem c_Plans_safeShips {l : Launch} {G : Gz} (hG : zI G) (σ : St) : MI l G y_Plans_safeShips prog_8_method_13_code 5 .int 5 [.ref (G.1 4), .ref (G.1 50), .ref (G.1 84)] σ ((sfF σ (ct (cM σ 3))).1) ((sfF σ (ct (cM σ 3))).2) := by
  refine MI.of hG (by decide) (Nat.le_of_ble_eq_true rfl) (fun X hx hq => ?_)
  show J l G X 5 σ 0 [(0, .ref (G.1 4)), (1, .ref (G.1 50)), (2, .ref (G.1 84))] []
  refine j_iconst (v := 0) hx d_Plans_safeShips_0 (by decide) ?_
  refine j_istore_n hx [(3, .int 0), (0, .ref (G.1 4)), (1, .ref (G.1 50)), (2, .ref (G.1 84))] d_Plans_safeShips_1 rfl (by decide) rfl ?_
  refine j_iconst (v := 0) hx d_Plans_safeShips_2 (by decide) ?_
  refine j_istore hx [(4, .int 0), (3, .int 0), (0, .ref (G.1 4)), (1, .ref (G.1 50)), (2, .ref (G.1 84))] d_Plans_safeShips_3 (by decide) rfl ?_
  have hl5 : ∀ (N9 : Nat) (i : Nat), (i ≤ (ct (cM σ 3))) → (ct (cM σ 3)) - i = N9 → J l G X 5 ((sfF σ i).2) 5 [(0, .ref (G.1 4)), (1, .ref (G.1 50)), (2, .ref (G.1 84)), (3, .int ((sfF σ i).1)), (4, .int (nI i))] [] := by
    intro N9
    induction N9 using Nat.strongRecOn with
    | _ N9 ih5 =>
      intro i hi_i hm5
      refine j_iload hx d_Plans_safeShips_5 4 rfl ?_
      refine j_aload_n hx d_Plans_safeShips_7 rfl 0 rfl ?_
      refine j_get hx ck_Coast 0 (by decide) t_86 (by decide) (sh_4 _ _) rfl d_Plans_safeShips_8 ?_
      refine j_iconst (v := 3) hx d_Plans_safeShips_11 (by decide) ?_
      refine j_callVi hx (c_Row_getA hG ir_5 6 rfl ((sfF σ i).2) 3) mo_Row_get mv_Row_get t_1098 (by decide) rfl (by decide) (sh_5 _ _) rfl rfl (Nat.le_of_ble_eq_true rfl) d_Plans_safeShips_12 ?_
      refine j_icmp_ge (tgt := 44) hx d_Plans_safeShips_15 (by decide) (fun zc15 => ?_) (fun zc15 => ?_)
      · skip
        obtain rfl := ct_end' hi_i (by have q9 := zc15; rw [sfF_o (by decide) (by decide) (by decide) (by decide)] at q9; exact q9)
        refine j_iload_n hx d_Plans_safeShips_44 rfl 3 rfl ?_
        exact j_iret hx hq rfl d_Plans_safeShips_45 (by first | (first | rfl | (simp only [zc15]; done) | (simp [zc15]; done)) | fail) (by first | (first | rfl | (simp only [zc15]; done) | (simp [zc15]; done)) | fail)
      · skip
        have hlt5 := ct_go hi_i (by have q9 := zc15; rw [sfF_o (by decide) (by decide) (by decide) (by decide)] at q9; exact q9)
        refine j_iload_n hx d_Plans_safeShips_18 rfl 3 rfl ?_
        refine j_aload_n hx d_Plans_safeShips_19 rfl 2 rfl ?_
        refine j_aload_n hx d_Plans_safeShips_20 rfl 0 rfl ?_
        refine j_aload_n hx d_Plans_safeShips_21 rfl 1 rfl ?_
        refine j_iload hx d_Plans_safeShips_22 4 rfl ?_
        refine j_callVi hx (c_Passing_struckIn hG ((sfF σ i).2) (nI i)) mo_Passing_struckIn mv_Passing_struckIn t_1131 (by decide) rfl (by decide) (sh_84 _ _) rfl rfl (Nat.le_of_ble_eq_true rfl) d_Plans_safeShips_24 ?_
        refine j_iconst (v := (-1)) hx d_Plans_safeShips_27 (by decide) ?_
        refine j_icmp_ne (tgt := 35) hx d_Plans_safeShips_28 (by decide) (fun zc28 => ?_) (fun zc28 => ?_)
        · skip
          refine j_iconst (v := 0) hx d_Plans_safeShips_35 (by decide) ?_
          refine j_iadd hx d_Plans_safeShips_36 ?_
          refine j_istore_n hx [(3, .int (((sfF σ i).1) + 0)), (0, .ref (G.1 4)), (1, .ref (G.1 50)), (2, .ref (G.1 84)), (4, .int (nI i))] d_Plans_safeShips_37 rfl (by decide) rfl ?_
          refine j_iinc hx [(4, .int ((nI i) + 1)), (3, .int (((sfF σ i).1) + 0)), (0, .ref (G.1 4)), (1, .ref (G.1 50)), (2, .ref (G.1 84))] d_Plans_safeShips_38 4 rfl rfl (by decide) rfl ?_
          refine j_goto (tgt := 5) hx d_Plans_safeShips_41 (by decide) ?_
          refine J.lsub (ls' := [(0, .ref (G.1 4)), (1, .ref (G.1 50)), (2, .ref (G.1 84)), (3, .int (((sfF σ i).1) + 0)), (4, .int ((nI i) + 1))]) [2, 3, 4, 1, 0] rfl ?_
          refine J.to ?_ ?_ (ih5 _ ?_ (i + 1) hlt5 rfl)
          · first | (rfl) | fail
          · first | (simp only [nI_s, sfF_s]; first | (rw [b2_t zc28]; done) | (rw [b2_f zc28]; done)) | fail
          · first | (omega) | fail
        · skip
          refine j_iconst (v := 1) hx d_Plans_safeShips_31 (by decide) ?_
          refine j_goto (tgt := 36) hx d_Plans_safeShips_32 (by decide) ?_
          refine j_iadd hx d_Plans_safeShips_36 ?_
          refine j_istore_n hx [(3, .int (((sfF σ i).1) + 1)), (0, .ref (G.1 4)), (1, .ref (G.1 50)), (2, .ref (G.1 84)), (4, .int (nI i))] d_Plans_safeShips_37 rfl (by decide) rfl ?_
          refine j_iinc hx [(4, .int ((nI i) + 1)), (3, .int (((sfF σ i).1) + 1)), (0, .ref (G.1 4)), (1, .ref (G.1 50)), (2, .ref (G.1 84))] d_Plans_safeShips_38 4 rfl rfl (by decide) rfl ?_
          refine j_goto (tgt := 5) hx d_Plans_safeShips_41 (by decide) ?_
          refine J.lsub (ls' := [(0, .ref (G.1 4)), (1, .ref (G.1 50)), (2, .ref (G.1 84)), (3, .int (((sfF σ i).1) + 1)), (4, .int ((nI i) + 1))]) [2, 3, 4, 1, 0] rfl ?_
          refine J.to ?_ ?_ (ih5 _ ?_ (i + 1) hlt5 rfl)
          · first | (rfl) | fail
          · first | (simp only [nI_s, sfF_s]; first | (rw [b2_t zc28]; done) | (rw [b2_f zc28]; done)) | fail
          · first | (omega) | fail
  refine J.lsub (ls' := [(0, .ref (G.1 4)), (1, .ref (G.1 50)), (2, .ref (G.1 84)), (3, .int 0), (4, .int 0)]) [2, 3, 4, 1, 0] rfl ?_
  refine J.to ?_ ?_ (hl5 _ 0 (Nat.zero_le _) rfl)
  · first | (rfl) | fail
  · first | (rfl) | fail

set_option maxRecDepth 20000 in
set_option maxHeartbeats 4000000 in
theorem c_Plans_showLamp {l : Launch} {G : Gz} (hG : zI G) (σ : St) (c : Int32) (p : Int32) (r : Int32) : MV l G y_Plans_showLamp prog_8_method_12_code 7 4 [.ref (G.1 93), .ref (G.1 4), .ref (G.1 84), .int c, .int p, .int r] σ (shL σ c p r) := by
  refine MV.of hG (by decide) (Nat.le_of_ble_eq_true rfl) (fun X hx hq => ?_)
  show J l G X 7 σ 0 [(0, .ref (G.1 93)), (1, .ref (G.1 4)), (2, .ref (G.1 84)), (3, .int c), (4, .int p), (5, .int r)] []
  refine j_iconst (v := 0) hx d_Plans_showLamp_0 (by decide) ?_
  refine j_istore hx [(6, .int 0), (0, .ref (G.1 93)), (1, .ref (G.1 4)), (2, .ref (G.1 84)), (3, .int c), (4, .int p), (5, .int r)] d_Plans_showLamp_1 (by decide) rfl ?_
  have hl3 : ∀ (N9 : Nat) (i : Nat), (i ≤ (ct (cM σ 0))) → (ct (cM σ 0)) - i = N9 → J l G X 7 (slS σ c p r i) 3 [(0, .ref (G.1 93)), (1, .ref (G.1 4)), (2, .ref (G.1 84)), (3, .int c), (4, .int p), (5, .int r), (6, .int (nI i))] [] := by
    intro N9
    induction N9 using Nat.strongRecOn with
    | _ N9 ih3 =>
      intro i hi_i hm3
      refine j_iload hx d_Plans_showLamp_3 6 rfl ?_
      refine j_aload_n hx d_Plans_showLamp_5 rfl 1 rfl ?_
      refine j_get hx ck_Coast 0 (by decide) t_86 (by decide) (sh_4 _ _) rfl d_Plans_showLamp_6 ?_
      refine j_iconst (v := 0) hx d_Plans_showLamp_9 (by decide) ?_
      refine j_callVi hx (c_Row_getA hG ir_5 6 rfl (slS σ c p r i) 0) mo_Row_get mv_Row_get t_1098 (by decide) rfl (by decide) (sh_5 _ _) rfl rfl (Nat.le_of_ble_eq_true rfl) d_Plans_showLamp_10 ?_
      refine j_icmp_ge (tgt := 58) hx d_Plans_showLamp_13 (by decide) (fun zc13 => ?_) (fun zc13 => ?_)
      · skip
        obtain rfl := ct_end' hi_i (by have q9 := zc13; rw [slS_o (by decide)] at q9; exact q9)
        refine j_aload_n hx d_Plans_showLamp_58 rfl 2 rfl ?_
        refine j_aload_n hx d_Plans_showLamp_59 rfl 1 rfl ?_
        refine j_get hx ck_Coast 0 (by decide) t_86 (by decide) (sh_4 _ _) rfl d_Plans_showLamp_60 ?_
        refine j_iconst (v := 0) hx d_Plans_showLamp_63 (by decide) ?_
        refine j_callVi hx (c_Row_getA hG ir_5 6 rfl (slS σ c p r (ct (cM σ 0))) 0) mo_Row_get mv_Row_get t_1098 (by decide) rfl (by decide) (sh_5 _ _) rfl rfl (Nat.le_of_ble_eq_true rfl) d_Plans_showLamp_64 ?_
        refine j_callVv hx (c_Passing_reckonDark hG (slS σ c p r (ct (cM σ 0))) (rg ((slS σ c p r (ct (cM σ 0))) (5 + 1)) 6 0)) mo_Passing_reckonDark mv_Passing_reckonDark t_1126 (by decide) rfl (by decide) (sh_84 _ _) rfl rfl (Nat.le_of_ble_eq_true rfl) d_Plans_showLamp_67 ?_
        exact j_vret hx hq d_Plans_showLamp_70 (by first | (show (rdk (slS σ c p r (ct (cM σ 0))) (ct (cM (slS σ c p r (ct (cM σ 0))) 0))).1 = shL σ c p r; unfold shL; rw [show cM (slS σ c p r (ct (cM σ 0))) 0 = cM σ 0 from by unfold cM; rw [slS_o (by decide)]]) | fail)
      · skip
        have hlt3 := ct_go hi_i (by have q9 := zc13; rw [slS_o (by decide)] at q9; exact q9)
        refine j_aload_n hx d_Plans_showLamp_16 rfl 2 rfl ?_
        refine j_iload hx d_Plans_showLamp_17 6 rfl ?_
        refine j_aload_n hx d_Plans_showLamp_19 rfl 0 rfl ?_
        refine j_get hx ck_Plans 0 (by decide) t_263 (by decide) (sh_93 _ _) rfl d_Plans_showLamp_20 ?_
        refine j_iload hx d_Plans_showLamp_23 6 rfl ?_
        refine j_callVi hx (c_Row_getA hG ir_94 95 rfl (slS σ c p r i) (nI i)) mo_Row_get mv_Row_get t_1098 (by decide) rfl (by decide) (sh_94 _ _) rfl rfl (Nat.le_of_ble_eq_true rfl) d_Plans_showLamp_25 ?_
        refine j_iload_n hx d_Plans_showLamp_28 rfl 3 rfl ?_
        refine j_iload hx d_Plans_showLamp_29 4 rfl ?_
        refine j_iload hx d_Plans_showLamp_31 6 rfl ?_
        refine j_iload hx d_Plans_showLamp_33 6 rfl ?_
        refine j_iload hx d_Plans_showLamp_35 5 rfl ?_
        refine j_callNi hx (c_DL_isSeen hG (slS σ c p r i) c p (nI i) (nI i) r) mo_DL_isSeen t_458 t_1108 (by decide) rfl rfl (Nat.le_of_ble_eq_true rfl) d_Plans_showLamp_37 ?_
        refine j_if_eq (tgt := 47) hx d_Plans_showLamp_40 (by decide) (fun zc40 => ?_) (fun zc40 => ?_)
        · skip
          refine j_iconst (v := 0) hx d_Plans_showLamp_47 (by decide) ?_
          refine j_iadd hx d_Plans_showLamp_48 ?_
          refine j_callVv hx (c_Passing_setSeen hG (slS σ c p r i) (nI i) ((rg ((slS σ c p r i) (94 + 1)) 12 (nI i)) + 0)) mo_Passing_setSeen mv_Passing_setSeen t_1122 (by decide) rfl (by decide) (sh_84 _ _) rfl rfl (Nat.le_of_ble_eq_true rfl) d_Plans_showLamp_49 ?_
          refine j_iinc hx [(6, .int ((nI i) + 1)), (0, .ref (G.1 93)), (1, .ref (G.1 4)), (2, .ref (G.1 84)), (3, .int c), (4, .int p), (5, .int r)] d_Plans_showLamp_52 6 rfl rfl (by decide) rfl ?_
          refine j_goto (tgt := 3) hx d_Plans_showLamp_55 (by decide) ?_
          refine J.lsub (ls' := [(0, .ref (G.1 93)), (1, .ref (G.1 4)), (2, .ref (G.1 84)), (3, .int c), (4, .int p), (5, .int r), (6, .int ((nI i) + 1))]) [1, 2, 3, 4, 5, 6, 0] rfl ?_
          refine J.to ?_ ?_ (ih3 _ ?_ (i + 1) hlt3 rfl)
          · first | (first | (show _ = rs (slS σ c p r i) 85 12 (nI i) (rg (slS σ c p r i 95) 12 (nI i) + b2 (iSn c p (nI i) (nI i) r)); rw [zc40]; done) | (show _ = rs (slS σ c p r i) 85 12 (nI i) (rg (slS σ c p r i 95) 12 (nI i) + b2 (iSn c p (nI i) (nI i) r)); rw [b2_n0 zc40]; done)) | fail
          · first | (first | rfl | (simp only [nI_s]; done) | (simp only [nI_s, it_s]; done) | (simp [nI_s, it_s, zc13, zc40]; done)) | fail
          · first | (omega) | fail
        · skip
          refine j_iconst (v := 1) hx d_Plans_showLamp_43 (by decide) ?_
          refine j_goto (tgt := 48) hx d_Plans_showLamp_44 (by decide) ?_
          refine j_iadd hx d_Plans_showLamp_48 ?_
          refine j_callVv hx (c_Passing_setSeen hG (slS σ c p r i) (nI i) ((rg ((slS σ c p r i) (94 + 1)) 12 (nI i)) + 1)) mo_Passing_setSeen mv_Passing_setSeen t_1122 (by decide) rfl (by decide) (sh_84 _ _) rfl rfl (Nat.le_of_ble_eq_true rfl) d_Plans_showLamp_49 ?_
          refine j_iinc hx [(6, .int ((nI i) + 1)), (0, .ref (G.1 93)), (1, .ref (G.1 4)), (2, .ref (G.1 84)), (3, .int c), (4, .int p), (5, .int r)] d_Plans_showLamp_52 6 rfl rfl (by decide) rfl ?_
          refine j_goto (tgt := 3) hx d_Plans_showLamp_55 (by decide) ?_
          refine J.lsub (ls' := [(0, .ref (G.1 93)), (1, .ref (G.1 4)), (2, .ref (G.1 84)), (3, .int c), (4, .int p), (5, .int r), (6, .int ((nI i) + 1))]) [1, 2, 3, 4, 5, 6, 0] rfl ?_
          refine J.to ?_ ?_ (ih3 _ ?_ (i + 1) hlt3 rfl)
          · first | (first | (show _ = rs (slS σ c p r i) 85 12 (nI i) (rg (slS σ c p r i 95) 12 (nI i) + b2 (iSn c p (nI i) (nI i) r)); rw [zc40]; done) | (show _ = rs (slS σ c p r i) 85 12 (nI i) (rg (slS σ c p r i 95) 12 (nI i) + b2 (iSn c p (nI i) (nI i) r)); rw [b2_n0 zc40]; done)) | fail
          · first | (first | rfl | (simp only [nI_s]; done) | (simp only [nI_s, it_s]; done) | (simp [nI_s, it_s, zc13, zc40]; done)) | fail
          · first | (omega) | fail
  refine J.lsub (ls' := [(0, .ref (G.1 93)), (1, .ref (G.1 4)), (2, .ref (G.1 84)), (3, .int c), (4, .int p), (5, .int r), (6, .int 0)]) [1, 2, 3, 4, 5, 6, 0] rfl ?_
  refine J.to ?_ ?_ (hl3 _ 0 (Nat.zero_le _) rfl)
  · first | (rfl) | fail
  · first | (first | rfl | (simp only [nI_s]; done) | (simp only [nI_s, it_s]; done) | (simp [nI_s, it_s, ]; done)) | fail

set_option maxRecDepth 20000 in
set_option maxHeartbeats 4000000 in
theorem c_Plans_showDonkeys {l : Launch} {G : Gz} (hG : zI G) (σ : St) (cells : Int32) : MV l G y_Plans_showDonkeys prog_8_method_9_code 8 4 [.ref (G.1 93), .ref (G.1 4), .ref (G.1 84), .int cells] σ (sdS σ cells) := by
  refine MV.of hG (by decide) (Nat.le_of_ble_eq_true rfl) (fun X hx hq => ?_)
  show J l G X 8 σ 0 [(0, .ref (G.1 93)), (1, .ref (G.1 4)), (2, .ref (G.1 84)), (3, .int cells)] []
  refine j_iconst (v := 0) hx d_Plans_showDonkeys_0 (by decide) ?_
  refine j_istore hx [(4, .int 0), (0, .ref (G.1 93)), (1, .ref (G.1 4)), (2, .ref (G.1 84)), (3, .int cells)] d_Plans_showDonkeys_1 (by decide) rfl ?_
  have hl3 : ∀ (N9 : Nat) (i : Nat), (i ≤ (ct (cM σ 0))) → (ct (cM σ 0)) - i = N9 → J l G X 8 (sd1 σ cells i) 3 [(0, .ref (G.1 93)), (1, .ref (G.1 4)), (2, .ref (G.1 84)), (3, .int cells), (4, .int (nI i))] [] := by
    intro N9
    induction N9 using Nat.strongRecOn with
    | _ N9 ih3 =>
      intro i hi_i hm3
      refine j_iload hx d_Plans_showDonkeys_3 4 rfl ?_
      refine j_aload_n hx d_Plans_showDonkeys_5 rfl 1 rfl ?_
      refine j_get hx ck_Coast 0 (by decide) t_86 (by decide) (sh_4 _ _) rfl d_Plans_showDonkeys_6 ?_
      refine j_iconst (v := 0) hx d_Plans_showDonkeys_9 (by decide) ?_
      refine j_callVi hx (c_Row_getA hG ir_5 6 rfl (sd1 σ cells i) 0) mo_Row_get mv_Row_get t_1098 (by decide) rfl (by decide) (sh_5 _ _) rfl rfl (Nat.le_of_ble_eq_true rfl) d_Plans_showDonkeys_10 ?_
      refine j_icmp_ge (tgt := 99) hx d_Plans_showDonkeys_13 (by decide) (fun zc13 => ?_) (fun zc13 => ?_)
      · skip
        obtain rfl := ct_end' hi_i (by have q9 := zc13; rw [sd1_o (by decide)] at q9; exact q9)
        refine j_aload_n hx d_Plans_showDonkeys_99 rfl 2 rfl ?_
        refine j_aload_n hx d_Plans_showDonkeys_100 rfl 1 rfl ?_
        refine j_get hx ck_Coast 0 (by decide) t_86 (by decide) (sh_4 _ _) rfl d_Plans_showDonkeys_101 ?_
        refine j_iconst (v := 0) hx d_Plans_showDonkeys_104 (by decide) ?_
        refine j_callVi hx (c_Row_getA hG ir_5 6 rfl (sd1 σ cells (ct (cM σ 0))) 0) mo_Row_get mv_Row_get t_1098 (by decide) rfl (by decide) (sh_5 _ _) rfl rfl (Nat.le_of_ble_eq_true rfl) d_Plans_showDonkeys_105 ?_
        refine j_callVv hx (c_Passing_reckonDark hG (sd1 σ cells (ct (cM σ 0))) (rg ((sd1 σ cells (ct (cM σ 0))) (5 + 1)) 6 0)) mo_Passing_reckonDark mv_Passing_reckonDark t_1126 (by decide) rfl (by decide) (sh_84 _ _) rfl rfl (Nat.le_of_ble_eq_true rfl) d_Plans_showDonkeys_108 ?_
        exact j_vret hx hq d_Plans_showDonkeys_111 (by first | (show (rdk (sd1 σ cells (ct (cM σ 0))) (ct (cM (sd1 σ cells (ct (cM σ 0))) 0))).1 = sdS σ cells; unfold sdS; rw [show cM (sd1 σ cells (ct (cM σ 0))) 0 = cM σ 0 from by unfold cM; rw [sd1_o (by decide)]]) | fail)
      · skip
        have hlt3 := ct_go hi_i (by have q9 := zc13; rw [sd1_o (by decide)] at q9; exact q9)
        refine j_aload_n hx d_Plans_showDonkeys_16 rfl 0 rfl ?_
        refine j_get hx ck_Plans 0 (by decide) t_263 (by decide) (sh_93 _ _) rfl d_Plans_showDonkeys_17 ?_
        refine j_iload hx d_Plans_showDonkeys_20 4 rfl ?_
        refine j_callVi hx (c_Row_getA hG ir_94 95 rfl (sd1 σ cells i) (nI i)) mo_Row_get mv_Row_get t_1098 (by decide) rfl (by decide) (sh_94 _ _) rfl rfl (Nat.le_of_ble_eq_true rfl) d_Plans_showDonkeys_22 ?_
        refine j_istore hx [(5, .int (rg ((sd1 σ cells i) (94 + 1)) 12 (nI i))), (0, .ref (G.1 93)), (1, .ref (G.1 4)), (2, .ref (G.1 84)), (3, .int cells), (4, .int (nI i))] d_Plans_showDonkeys_25 (by decide) rfl ?_
        refine j_iconst (v := 0) hx d_Plans_showDonkeys_27 (by decide) ?_
        refine j_istore hx [(6, .int 0), (5, .int (rg ((sd1 σ cells i) (94 + 1)) 12 (nI i))), (0, .ref (G.1 93)), (1, .ref (G.1 4)), (2, .ref (G.1 84)), (3, .int cells), (4, .int (nI i))] d_Plans_showDonkeys_28 (by decide) rfl ?_
        have hl30 : ∀ (N9 : Nat) (j : Nat), (j ≤ (ct (cM (sd1 σ cells i) 2))) → (ct (cM (sd1 σ cells i) 2)) - j = N9 → J l G X 8 (sd1 σ cells i) 30 [(0, .ref (G.1 93)), (1, .ref (G.1 4)), (2, .ref (G.1 84)), (3, .int cells), (4, .int (nI i)), (5, .int (sdF (sd1 σ cells i) cells i j)), (6, .int (nI j))] [] := by
          intro N9
          induction N9 using Nat.strongRecOn with
          | _ N9 ih30 =>
            intro j hi_j hm30
            refine j_iload hx d_Plans_showDonkeys_30 6 rfl ?_
            refine j_aload_n hx d_Plans_showDonkeys_32 rfl 1 rfl ?_
            refine j_get hx ck_Coast 0 (by decide) t_86 (by decide) (sh_4 _ _) rfl d_Plans_showDonkeys_33 ?_
            refine j_iconst (v := 2) hx d_Plans_showDonkeys_36 (by decide) ?_
            refine j_callVi hx (c_Row_getA hG ir_5 6 rfl (sd1 σ cells i) 2) mo_Row_get mv_Row_get t_1098 (by decide) rfl (by decide) (sh_5 _ _) rfl rfl (Nat.le_of_ble_eq_true rfl) d_Plans_showDonkeys_37 ?_
            refine j_icmp_ge (tgt := 85) hx d_Plans_showDonkeys_40 (by decide) (fun zc40 => ?_) (fun zc40 => ?_)
            · skip
              obtain rfl := ct_end' hi_j zc40
              refine j_aload_n hx d_Plans_showDonkeys_85 rfl 2 rfl ?_
              refine j_iload hx d_Plans_showDonkeys_86 4 rfl ?_
              refine j_iload hx d_Plans_showDonkeys_88 5 rfl ?_
              refine j_callVv hx (c_Passing_setSeen hG (sd1 σ cells i) (nI i) (sdF (sd1 σ cells i) cells i (ct (cM (sd1 σ cells i) 2)))) mo_Passing_setSeen mv_Passing_setSeen t_1122 (by decide) rfl (by decide) (sh_84 _ _) rfl rfl (Nat.le_of_ble_eq_true rfl) d_Plans_showDonkeys_90 ?_
              refine j_iinc hx [(4, .int ((nI i) + 1)), (0, .ref (G.1 93)), (1, .ref (G.1 4)), (2, .ref (G.1 84)), (3, .int cells), (5, .int (sdF (sd1 σ cells i) cells i (ct (cM (sd1 σ cells i) 2)))), (6, .int (nI (ct (cM (sd1 σ cells i) 2))))] d_Plans_showDonkeys_93 4 rfl rfl (by decide) rfl ?_
              refine j_goto (tgt := 3) hx d_Plans_showDonkeys_96 (by decide) ?_
              refine J.lsub (ls' := [(0, .ref (G.1 93)), (1, .ref (G.1 4)), (2, .ref (G.1 84)), (3, .int cells), (4, .int ((nI i) + 1))]) [1, 2, 3, 4, 0] rfl ?_
              refine J.to ?_ ?_ (ih3 _ ?_ (i + 1) hlt3 rfl)
              · first | (rfl) | fail
              · first | (first | rfl | (simp only [nI_s]; done) | (simp only [nI_s, it_s]; done) | (simp [nI_s, it_s, zc13, zc40]; done)) | fail
              · first | (omega) | fail
            · skip
              have hlt30 := ct_go hi_j zc40
              refine j_iload_n hx d_Plans_showDonkeys_43 rfl 3 rfl ?_
              refine j_iconst (v := 4) hx d_Plans_showDonkeys_44 (by decide) ?_
              refine j_iload hx d_Plans_showDonkeys_45 6 rfl ?_
              refine j_imul hx d_Plans_showDonkeys_47 ?_
              refine j_ishr hx d_Plans_showDonkeys_48 ?_
              refine j_bipush (v := 15) hx d_Plans_showDonkeys_49 (by decide) ?_
              refine j_iand hx d_Plans_showDonkeys_51 ?_
              refine j_istore hx [(7, .int ((cells >>> ((4 * (nI j)) &&& 31)) &&& 15)), (0, .ref (G.1 93)), (1, .ref (G.1 4)), (2, .ref (G.1 84)), (3, .int cells), (4, .int (nI i)), (5, .int (sdF (sd1 σ cells i) cells i j)), (6, .int (nI j))] d_Plans_showDonkeys_52 (by decide) rfl ?_
              refine j_iload hx d_Plans_showDonkeys_54 6 rfl ?_
              refine j_aload_n hx d_Plans_showDonkeys_56 rfl 1 rfl ?_
              refine j_get hx ck_Plans 1 (by decide) t_264 (by decide) (sh_93 _ _) rfl d_Plans_showDonkeys_57 ?_
              refine j_iload hx d_Plans_showDonkeys_60 7 rfl ?_
              refine j_bipush (v := 12) hx d_Plans_showDonkeys_62 (by decide) ?_
              refine j_imul hx d_Plans_showDonkeys_64 ?_
              refine j_iload hx d_Plans_showDonkeys_65 0 rfl ?_
              refine j_iadd hx d_Plans_showDonkeys_67 ?_
              refine j_callVi hx (c_Row_getA hG ir_96 97 rfl (sd1 σ cells i) (((nI j) * 12) + ((cells >>> ((4 * (nI j)) &&& 31)) &&& 15))) mo_Row_get mv_Row_get t_1098 (by decide) rfl (by decide) (sh_96 _ _) rfl rfl (Nat.le_of_ble_eq_true rfl) d_Plans_showDonkeys_68 ?_
              refine j_iload hx d_Plans_showDonkeys_71 5 rfl ?_
              refine j_ishr hx d_Plans_showDonkeys_73 ?_
              refine j_iconst (v := 1) hx d_Plans_showDonkeys_74 (by decide) ?_
              refine j_iand hx d_Plans_showDonkeys_75 ?_
              refine j_iadd hx d_Plans_showDonkeys_76 ?_
              refine j_istore hx [(5, .int ((sdF (sd1 σ cells i) cells i j) + (((rg ((sd1 σ cells i) (96 + 1)) 36 (((nI j) * 12) + ((cells >>> ((4 * (nI j)) &&& 31)) &&& 15))) >>> ((nI i) &&& 31)) &&& 1))), (7, .int ((cells >>> ((4 * (nI j)) &&& 31)) &&& 15)), (0, .ref (G.1 93)), (1, .ref (G.1 4)), (2, .ref (G.1 84)), (3, .int cells), (4, .int (nI i)), (6, .int (nI j))] d_Plans_showDonkeys_77 (by decide) rfl ?_
              refine j_iinc hx [(6, .int ((nI j) + 1)), (5, .int ((sdF (sd1 σ cells i) cells i j) + (((rg ((sd1 σ cells i) (96 + 1)) 36 (((nI j) * 12) + ((cells >>> ((4 * (nI j)) &&& 31)) &&& 15))) >>> ((nI i) &&& 31)) &&& 1))), (7, .int ((cells >>> ((4 * (nI j)) &&& 31)) &&& 15)), (0, .ref (G.1 93)), (1, .ref (G.1 4)), (2, .ref (G.1 84)), (3, .int cells), (4, .int (nI i))] d_Plans_showDonkeys_79 7 rfl rfl (by decide) rfl ?_
              refine j_goto (tgt := 30) hx d_Plans_showDonkeys_82 (by decide) ?_
              refine J.lsub (ls' := [(0, .ref (G.1 93)), (1, .ref (G.1 4)), (2, .ref (G.1 84)), (3, .int cells), (4, .int (nI i)), (5, .int ((sdF (sd1 σ cells i) cells i j) + (((rg ((sd1 σ cells i) (96 + 1)) 36 (((nI j) * 12) + ((cells >>> ((4 * (nI j)) &&& 31)) &&& 15))) >>> ((nI i) &&& 31)) &&& 1))), (6, .int ((nI j) + 1))]) [3, 4, 5, 6, 7, 1, 0] rfl ?_
              refine J.to ?_ ?_ (ih30 _ ?_ (j + 1) hlt30 rfl)
              · first | (first | rfl | (simp [zc13, zc40]; done)) | fail
              · first | (simp only [nI_s]; rfl) | fail
              · first | (omega) | fail
        refine J.lsub (ls' := [(0, .ref (G.1 93)), (1, .ref (G.1 4)), (2, .ref (G.1 84)), (3, .int cells), (4, .int (nI i)), (5, .int (rg ((sd1 σ cells i) (94 + 1)) 12 (nI i))), (6, .int 0)]) [2, 3, 4, 5, 6, 1, 0] rfl ?_
        refine J.to ?_ ?_ (hl30 _ 0 (Nat.zero_le _) rfl)
        · first | (first | rfl | (simp [zc13]; done)) | fail
        · first | (rfl) | fail
  refine J.lsub (ls' := [(0, .ref (G.1 93)), (1, .ref (G.1 4)), (2, .ref (G.1 84)), (3, .int cells), (4, .int 0)]) [1, 2, 3, 4, 0] rfl ?_
  refine J.to ?_ ?_ (hl3 _ 0 (Nat.zero_le _) rfl)
  · first | (rfl) | fail
  · first | (first | rfl | (simp only [nI_s]; done) | (simp only [nI_s, it_s]; done) | (simp [nI_s, it_s, ]; done)) | fail

