/-! ===== the nights (object o; its row's array o + 2) ===== -/
abbrev ng (σ : St) (o : Nat) (i : Int32) : Int32 := rg (σ (o + 2)) 29 i
def nst (σ : St) (o : Nat) (i v : Int32) : St := rs σ (o + 1) 29 i v
def nad (σ : St) (o : Nat) (i v : Int32) : St := rs σ (o + 1) 29 i (rg (σ (o + 2)) 29 i + v)
def hp1 (σ : St) (o : Nat) (s : Int32) : St := nst σ o 7 (ng σ o 7 ||| (1 <<< (s &&& 31)))
def hp2 (σ : St) (o : Nat) (s w p : Int32) : St := nad (nad σ o 2 1) o 3 p
def hp3 (σ : St) (o : Nat) (s w p : Int32) : St := nad σ o 4 (sC σ s - p)
def hp4 (σ : St) (o : Nat) (s w : Int32) : St := nad σ o 5 (alv σ s w)
def hp5 (σ : St) (o : Nat) (s w : Int32) : St := nad (nad σ o (11 + s) 1) o (17 + w) 1
def hps (σ : St) (o : Nat) (s w : Int32) : St := if w = -1 then hp1 σ o s else hp5 (hp4 (hp3 (hp2 (hp1 σ o s) o s w (pcg (hp1 σ o s) s w)) o s w (pcg (hp1 σ o s) s w)) o s w) o s w
abbrev liP (σ : St) (o : Nat) (c : Int32) (l : Nat) : Prop := hB (ng σ o 6) (nI l) ∧ lX σ (nI l) = c
abbrev lfP (σ : St) (o : Nat) (c m r : Int32) (l : Nat) : Prop := hB (ng σ o 6) (nI l) ∧ iSn (lX σ (nI l)) (lP σ (nI l)) c m r
def lfl (σ : St) (o : Nat) (c m r : Int32) : Int32 := sm (fun l => b2 (lfP σ o c m r l)) (ct (cM σ 1))
def dat (σ : St) (o : Nat) (m : Int32) (d : Nat) : Int32 := if cM σ 0 - 1 < ng σ o (8 + nI d) + m then cM σ 0 - 1 else ng σ o (8 + nI d) + m
abbrev dfP (σ : St) (o : Nat) (c m r : Int32) (d : Nat) : Prop := iSn (dat σ o m d) (dP σ (nI d)) c m r
def dfl (σ : St) (o : Nat) (c m r : Int32) : Int32 := sm (fun d => b2 (dfP σ o c m r d)) (ct (cM σ 2))
def rch (σ : St) (o : Nat) : Int32 := if ng σ o 1 = 1 then σ 4 11 / 2 else σ 4 11
theorem rs_o {σ : St} {o n o' : Nat} {i v : Int32} (h : o' ≠ o + 1) : rs σ o n i v o' = σ o' := by
  unfold rs; split
  · exact up_o h
  · rfl
def nrs (σ : St) (n : Nat) : St := it (fun d s => rs s 82 29 (8 + nI d) (dX s (nI d))) (rs (fl σ 83 29 (fun _ => 0)) 82 29 6 (1 <<< (cM (fl σ 83 29 (fun _ => 0)) 1 &&& 31) - 1)) n
theorem nrs_o {σ : St} {n o : Nat} (h : o ≠ 83) : nrs σ n o = σ o := by
  unfold nrs
  induction n with
  | zero => rw [it_0, rs_o h]; simp [fl, h]
  | succ n ih => rw [it_s, rs_o h, ih]

set_option maxRecDepth 20000 in
set_option maxHeartbeats 4000000 in
theorem c_Nights_get {l : Launch} {G : Gz} (hG : zI G) {o : Nat} (ho_o : isNights o) (σ : St) (w : Int32) : MI l G y_Nights_get prog_6_method_3_code 2 .int 2 [.ref (G.1 (o)), .int w] σ (rg (σ (o + 2)) 29 w) σ := by
  refine MI.of hG (by decide) (Nat.le_of_ble_eq_true rfl) (fun X hx hq => ?_)
  show J l G X 2 σ 0 [(0, .ref (G.1 (o))), (1, .int w)] []
  refine j_aload_n hx d_Nights_get_0 rfl 0 rfl ?_
  refine j_get hx ck_Nights 0 (by decide) t_228 (by have := ho_o.1; omega) (ho_o.2.1 _ _) rfl d_Nights_get_1 ?_
  refine j_iload_n hx d_Nights_get_4 rfl 1 rfl ?_
  refine j_callVi hx (c_Row_getA hG ho_o.2.2 (o + 2) rfl σ w) mo_Row_get mv_Row_get t_436 (by decide) rfl (by have := ho_o.2.2.1; omega) (ho_o.2.2.2.1 _ _) rfl rfl (Nat.le_of_ble_eq_true rfl) d_Nights_get_5 ?_
  exact j_iret hx hq rfl d_Nights_get_8 (by first | (first | rfl | (simp only []; done) | (simp []; done)) | fail) (by first | (first | rfl | (simp only []; done) | (simp []; done)) | fail)

set_option maxRecDepth 20000 in
set_option maxHeartbeats 4000000 in
theorem c_Nights_forgetWrecks {l : Launch} {G : Gz} (hG : zI G) {o : Nat} (ho_o : isNights o) (σ : St) : MV l G y_Nights_forgetWrecks prog_6_method_4_code 1 2 [.ref (G.1 (o))] σ (rs (rs (rs (rs σ (o + 1) 29 2 0) (o + 1) 29 3 0) (o + 1) 29 4 0) (o + 1) 29 5 0) := by
  refine MV.of hG (by decide) (Nat.le_of_ble_eq_true rfl) (fun X hx hq => ?_)
  show J l G X 1 σ 0 [(0, .ref (G.1 (o)))] []
  refine j_aload_n hx d_Nights_forgetWrecks_0 rfl 0 rfl ?_
  refine j_get hx ck_Nights 0 (by decide) t_228 (by have := ho_o.1; omega) (ho_o.2.1 _ _) rfl d_Nights_forgetWrecks_1 ?_
  refine j_iconst (v := 2) hx d_Nights_forgetWrecks_4 (by decide) ?_
  refine j_iconst (v := 0) hx d_Nights_forgetWrecks_5 (by decide) ?_
  refine j_callVv hx (c_Row_set hG ho_o.2.2 σ 2 0) mo_Row_set mv_Row_set t_783 (by decide) rfl (by have := ho_o.2.2.1; omega) (ho_o.2.2.2.1 _ _) rfl rfl (Nat.le_of_ble_eq_true rfl) d_Nights_forgetWrecks_6 ?_
  refine j_aload_n hx d_Nights_forgetWrecks_9 rfl 0 rfl ?_
  refine j_get hx ck_Nights 0 (by decide) t_228 (by have := ho_o.1; omega) (ho_o.2.1 _ _) rfl d_Nights_forgetWrecks_10 ?_
  refine j_iconst (v := 3) hx d_Nights_forgetWrecks_13 (by decide) ?_
  refine j_iconst (v := 0) hx d_Nights_forgetWrecks_14 (by decide) ?_
  refine j_callVv hx (c_Row_set hG ho_o.2.2 (rs σ (o + 1) 29 2 0) 3 0) mo_Row_set mv_Row_set t_783 (by decide) rfl (by have := ho_o.2.2.1; omega) (ho_o.2.2.2.1 _ _) rfl rfl (Nat.le_of_ble_eq_true rfl) d_Nights_forgetWrecks_15 ?_
  refine j_aload_n hx d_Nights_forgetWrecks_18 rfl 0 rfl ?_
  refine j_get hx ck_Nights 0 (by decide) t_228 (by have := ho_o.1; omega) (ho_o.2.1 _ _) rfl d_Nights_forgetWrecks_19 ?_
  refine j_iconst (v := 4) hx d_Nights_forgetWrecks_22 (by decide) ?_
  refine j_iconst (v := 0) hx d_Nights_forgetWrecks_23 (by decide) ?_
  refine j_callVv hx (c_Row_set hG ho_o.2.2 (rs (rs σ (o + 1) 29 2 0) (o + 1) 29 3 0) 4 0) mo_Row_set mv_Row_set t_783 (by decide) rfl (by have := ho_o.2.2.1; omega) (ho_o.2.2.2.1 _ _) rfl rfl (Nat.le_of_ble_eq_true rfl) d_Nights_forgetWrecks_24 ?_
  refine j_aload_n hx d_Nights_forgetWrecks_27 rfl 0 rfl ?_
  refine j_get hx ck_Nights 0 (by decide) t_228 (by have := ho_o.1; omega) (ho_o.2.1 _ _) rfl d_Nights_forgetWrecks_28 ?_
  refine j_iconst (v := 5) hx d_Nights_forgetWrecks_31 (by decide) ?_
  refine j_iconst (v := 0) hx d_Nights_forgetWrecks_32 (by decide) ?_
  refine j_callVv hx (c_Row_set hG ho_o.2.2 (rs (rs (rs σ (o + 1) 29 2 0) (o + 1) 29 3 0) (o + 1) 29 4 0) 5 0) mo_Row_set mv_Row_set t_783 (by decide) rfl (by have := ho_o.2.2.1; omega) (ho_o.2.2.2.1 _ _) rfl rfl (Nat.le_of_ble_eq_true rfl) d_Nights_forgetWrecks_33 ?_
  exact j_vret hx hq d_Nights_forgetWrecks_36 (by first | (first | rfl | (simp only []; done) | (simp []; done)) | fail)

set_option maxRecDepth 20000 in
set_option maxHeartbeats 4000000 in
theorem c_Nights_burns {l : Launch} {G : Gz} (hG : zI G) {o : Nat} (ho_o : isNights o) (σ : St) (li : Int32) : MI l G y_Nights_burns prog_6_method_5_code 2 .boolean 2 [.ref (G.1 (o)), .int li] σ (b2 (hB (rg (σ (o + 2)) 29 6) li)) σ := by
  refine MI.of hG (by decide) (Nat.le_of_ble_eq_true rfl) (fun X hx hq => ?_)
  show J l G X 2 σ 0 [(0, .ref (G.1 (o))), (1, .int li)] []
  refine j_aload_n hx d_Nights_burns_0 rfl 0 rfl ?_
  refine j_get hx ck_Nights 0 (by decide) t_228 (by have := ho_o.1; omega) (ho_o.2.1 _ _) rfl d_Nights_burns_1 ?_
  refine j_bipush (v := 6) hx d_Nights_burns_4 (by decide) ?_
  refine j_callVi hx (c_Row_getA hG ho_o.2.2 (o + 2) rfl σ 6) mo_Row_get mv_Row_get t_436 (by decide) rfl (by have := ho_o.2.2.1; omega) (ho_o.2.2.2.1 _ _) rfl rfl (Nat.le_of_ble_eq_true rfl) d_Nights_burns_6 ?_
  refine j_iload_n hx d_Nights_burns_9 rfl 1 rfl ?_
  refine j_callNi hx (c_DL_hasBit hG σ (rg (σ ((o + 1) + 1)) 29 6) li) mo_DL_hasBit t_455 t_454 (by decide) rfl rfl (Nat.le_of_ble_eq_true rfl) d_Nights_burns_10 ?_
  exact j_iret hx hq (nz_b2 _) d_Nights_burns_13 (by first | (first | rfl | (simp only []; done) | (simp []; done)) | fail) (by first | (first | rfl | (simp only []; done) | (simp []; done)) | fail)

set_option maxRecDepth 20000 in
set_option maxHeartbeats 4000000 in
theorem c_Nights_passed {l : Launch} {G : Gz} (hG : zI G) {o : Nat} (ho_o : isNights o) (σ : St) (s : Int32) : MI l G y_Nights_passed prog_6_method_6_code 2 .boolean 2 [.ref (G.1 (o)), .int s] σ (b2 (hB (rg (σ (o + 2)) 29 7) s)) σ := by
  refine MI.of hG (by decide) (Nat.le_of_ble_eq_true rfl) (fun X hx hq => ?_)
  show J l G X 2 σ 0 [(0, .ref (G.1 (o))), (1, .int s)] []
  refine j_aload_n hx d_Nights_passed_0 rfl 0 rfl ?_
  refine j_get hx ck_Nights 0 (by decide) t_228 (by have := ho_o.1; omega) (ho_o.2.1 _ _) rfl d_Nights_passed_1 ?_
  refine j_bipush (v := 7) hx d_Nights_passed_4 (by decide) ?_
  refine j_callVi hx (c_Row_getA hG ho_o.2.2 (o + 2) rfl σ 7) mo_Row_get mv_Row_get t_436 (by decide) rfl (by have := ho_o.2.2.1; omega) (ho_o.2.2.2.1 _ _) rfl rfl (Nat.le_of_ble_eq_true rfl) d_Nights_passed_6 ?_
  refine j_iload_n hx d_Nights_passed_9 rfl 1 rfl ?_
  refine j_callNi hx (c_DL_hasBit hG σ (rg (σ ((o + 1) + 1)) 29 7) s) mo_DL_hasBit t_455 t_454 (by decide) rfl rfl (Nat.le_of_ble_eq_true rfl) d_Nights_passed_10 ?_
  exact j_iret hx hq (nz_b2 _) d_Nights_passed_13 (by first | (first | rfl | (simp only []; done) | (simp []; done)) | fail) (by first | (first | rfl | (simp only []; done) | (simp []; done)) | fail)

set_option maxRecDepth 20000 in
set_option maxHeartbeats 4000000 in
theorem c_Nights_setBurning {l : Launch} {G : Gz} (hG : zI G) {o : Nat} (ho_o : isNights o) (σ : St) (li : Int32) (bz : Int32) : MI l G y_Nights_setBurning prog_6_method_7_code 3 .boolean 3 [.ref (G.1 (o)), .int li, .int bz] σ (b2 (¬ b2 (hB (rg (σ (o + 2)) 29 6) li) = bz)) (if b2 (hB (rg (σ (o + 2)) 29 6) li) = bz then σ else rs σ (o + 1) 29 6 (rg (σ (o + 2)) 29 6 ^^^ (1 <<< (li &&& 31)))) := by
  refine MI.of hG (by decide) (Nat.le_of_ble_eq_true rfl) (fun X hx hq => ?_)
  show J l G X 3 σ 0 [(0, .ref (G.1 (o))), (1, .int li), (2, .int bz)] []
  refine j_aload_n hx d_Nights_setBurning_0 rfl 0 rfl ?_
  refine j_iload_n hx d_Nights_setBurning_1 rfl 1 rfl ?_
  refine j_callVi hx (c_Nights_burns hG ho_o σ li) mo_Nights_burns mv_Nights_burns t_886 (by decide) rfl (by have := ho_o.1; omega) (ho_o.2.1 _ _) rfl rfl (Nat.le_of_ble_eq_true rfl) d_Nights_setBurning_2 ?_
  refine j_iload_n hx d_Nights_setBurning_5 rfl 2 rfl ?_
  refine j_icmp_ne (tgt := 11) hx d_Nights_setBurning_6 (by decide) (fun zc6 => ?_) (fun zc6 => ?_)
  · skip
    refine j_aload_n hx d_Nights_setBurning_11 rfl 0 rfl ?_
    refine j_get hx ck_Nights 0 (by decide) t_228 (by have := ho_o.1; omega) (ho_o.2.1 _ _) rfl d_Nights_setBurning_12 ?_
    refine j_bipush (v := 6) hx d_Nights_setBurning_15 (by decide) ?_
    refine j_aload_n hx d_Nights_setBurning_17 rfl 0 rfl ?_
    refine j_get hx ck_Nights 0 (by decide) t_228 (by have := ho_o.1; omega) (ho_o.2.1 _ _) rfl d_Nights_setBurning_18 ?_
    refine j_bipush (v := 6) hx d_Nights_setBurning_21 (by decide) ?_
    refine j_callVi hx (c_Row_getA hG ho_o.2.2 (o + 2) rfl σ 6) mo_Row_get mv_Row_get t_436 (by decide) rfl (by have := ho_o.2.2.1; omega) (ho_o.2.2.2.1 _ _) rfl rfl (Nat.le_of_ble_eq_true rfl) d_Nights_setBurning_23 ?_
    refine j_iconst (v := 1) hx d_Nights_setBurning_26 (by decide) ?_
    refine j_iload_n hx d_Nights_setBurning_27 rfl 1 rfl ?_
    refine j_ishl hx d_Nights_setBurning_28 ?_
    refine j_ixor hx d_Nights_setBurning_29 ?_
    refine j_callVv hx (c_Row_set hG ho_o.2.2 σ 6 ((rg (σ ((o + 1) + 1)) 29 6) ^^^ (1 <<< (li &&& 31)))) mo_Row_set mv_Row_set t_783 (by decide) rfl (by have := ho_o.2.2.1; omega) (ho_o.2.2.2.1 _ _) rfl rfl (Nat.le_of_ble_eq_true rfl) d_Nights_setBurning_30 ?_
    refine j_iconst (v := 1) hx d_Nights_setBurning_33 (by decide) ?_
    exact j_iret hx hq rfl d_Nights_setBurning_34 (by first | (first | exact (b2_f (fun z => z zc6)).symm | exact (b2_t zc6).symm) | fail) (by first | (first | exact (if_pos zc6).symm | exact (if_neg zc6).symm) | fail)
  · skip
    refine j_iconst (v := 0) hx d_Nights_setBurning_9 (by decide) ?_
    exact j_iret hx hq rfl d_Nights_setBurning_10 (by first | (first | exact (b2_f (fun z => z zc6)).symm | exact (b2_t zc6).symm) | fail) (by first | (first | exact (if_pos zc6).symm | exact (if_neg zc6).symm) | fail)

set_option maxRecDepth 20000 in
set_option maxHeartbeats 4000000 in
theorem c_Nights_lead {l : Launch} {G : Gz} (hG : zI G) {o : Nat} (ho_o : isNights o) (σ : St) (d : Int32) (c : Int32) : MI l G y_Nights_lead prog_6_method_8_code 3 .boolean 2 [.ref (G.1 (o)), .int d, .int c] σ (b2 (¬ rg (σ (o + 2)) 29 (8 + d) = c)) (if rg (σ (o + 2)) 29 (8 + d) = c then σ else rs σ (o + 1) 29 (8 + d) c) := by
  refine MI.of hG (by decide) (Nat.le_of_ble_eq_true rfl) (fun X hx hq => ?_)
  show J l G X 3 σ 0 [(0, .ref (G.1 (o))), (1, .int d), (2, .int c)] []
  refine j_aload_n hx d_Nights_lead_0 rfl 0 rfl ?_
  refine j_get hx ck_Nights 0 (by decide) t_228 (by have := ho_o.1; omega) (ho_o.2.1 _ _) rfl d_Nights_lead_1 ?_
  refine j_bipush (v := 8) hx d_Nights_lead_4 (by decide) ?_
  refine j_iload_n hx d_Nights_lead_6 rfl 1 rfl ?_
  refine j_iadd hx d_Nights_lead_7 ?_
  refine j_callVi hx (c_Row_getA hG ho_o.2.2 (o + 2) rfl σ (8 + d)) mo_Row_get mv_Row_get t_436 (by decide) rfl (by have := ho_o.2.2.1; omega) (ho_o.2.2.2.1 _ _) rfl rfl (Nat.le_of_ble_eq_true rfl) d_Nights_lead_8 ?_
  refine j_iload_n hx d_Nights_lead_11 rfl 2 rfl ?_
  refine j_icmp_ne (tgt := 17) hx d_Nights_lead_12 (by decide) (fun zc12 => ?_) (fun zc12 => ?_)
  · skip
    refine j_aload_n hx d_Nights_lead_17 rfl 0 rfl ?_
    refine j_get hx ck_Nights 0 (by decide) t_228 (by have := ho_o.1; omega) (ho_o.2.1 _ _) rfl d_Nights_lead_18 ?_
    refine j_bipush (v := 8) hx d_Nights_lead_21 (by decide) ?_
    refine j_iload_n hx d_Nights_lead_23 rfl 1 rfl ?_
    refine j_iadd hx d_Nights_lead_24 ?_
    refine j_iload_n hx d_Nights_lead_25 rfl 2 rfl ?_
    refine j_callVv hx (c_Row_set hG ho_o.2.2 σ (8 + d) c) mo_Row_set mv_Row_set t_783 (by decide) rfl (by have := ho_o.2.2.1; omega) (ho_o.2.2.2.1 _ _) rfl rfl (Nat.le_of_ble_eq_true rfl) d_Nights_lead_26 ?_
    refine j_iconst (v := 1) hx d_Nights_lead_29 (by decide) ?_
    exact j_iret hx hq rfl d_Nights_lead_30 (by first | (first | exact (b2_f (fun z => z zc12)).symm | exact (b2_t zc12).symm) | fail) (by first | (first | exact (if_pos zc12).symm | exact (if_neg zc12).symm) | fail)
  · skip
    refine j_iconst (v := 0) hx d_Nights_lead_15 (by decide) ?_
    exact j_iret hx hq rfl d_Nights_lead_16 (by first | (first | exact (b2_f (fun z => z zc12)).symm | exact (b2_t zc12).symm) | fail) (by first | (first | exact (if_pos zc12).symm | exact (if_neg zc12).symm) | fail)

set_option maxRecDepth 20000 in
set_option maxHeartbeats 4000000 in
theorem c_Nights_fogComes {l : Launch} {G : Gz} (hG : zI G) {o : Nat} (ho_o : isNights o) (σ : St) : MI l G y_Nights_fogComes prog_6_method_9_code 1 .boolean 2 [.ref (G.1 (o))] σ (b2 (¬ rg (σ (o + 2)) 29 1 = 1)) (if rg (σ (o + 2)) 29 1 = 1 then σ else rs σ (o + 1) 29 1 1) := by
  refine MI.of hG (by decide) (Nat.le_of_ble_eq_true rfl) (fun X hx hq => ?_)
  show J l G X 1 σ 0 [(0, .ref (G.1 (o)))] []
  refine j_aload_n hx d_Nights_fogComes_0 rfl 0 rfl ?_
  refine j_get hx ck_Nights 0 (by decide) t_228 (by have := ho_o.1; omega) (ho_o.2.1 _ _) rfl d_Nights_fogComes_1 ?_
  refine j_iconst (v := 1) hx d_Nights_fogComes_4 (by decide) ?_
  refine j_callVi hx (c_Row_getA hG ho_o.2.2 (o + 2) rfl σ 1) mo_Row_get mv_Row_get t_436 (by decide) rfl (by have := ho_o.2.2.1; omega) (ho_o.2.2.2.1 _ _) rfl rfl (Nat.le_of_ble_eq_true rfl) d_Nights_fogComes_5 ?_
  refine j_iconst (v := 1) hx d_Nights_fogComes_8 (by decide) ?_
  refine j_icmp_ne (tgt := 14) hx d_Nights_fogComes_9 (by decide) (fun zc9 => ?_) (fun zc9 => ?_)
  · skip
    refine j_aload_n hx d_Nights_fogComes_14 rfl 0 rfl ?_
    refine j_get hx ck_Nights 0 (by decide) t_228 (by have := ho_o.1; omega) (ho_o.2.1 _ _) rfl d_Nights_fogComes_15 ?_
    refine j_iconst (v := 1) hx d_Nights_fogComes_18 (by decide) ?_
    refine j_iconst (v := 1) hx d_Nights_fogComes_19 (by decide) ?_
    refine j_callVv hx (c_Row_set hG ho_o.2.2 σ 1 1) mo_Row_set mv_Row_set t_783 (by decide) rfl (by have := ho_o.2.2.1; omega) (ho_o.2.2.2.1 _ _) rfl rfl (Nat.le_of_ble_eq_true rfl) d_Nights_fogComes_20 ?_
    refine j_iconst (v := 1) hx d_Nights_fogComes_23 (by decide) ?_
    exact j_iret hx hq rfl d_Nights_fogComes_24 (by first | (first | exact (b2_f (fun z => z zc9)).symm | exact (b2_t zc9).symm) | fail) (by first | (first | exact (if_pos zc9).symm | exact (if_neg zc9).symm) | fail)
  · skip
    refine j_iconst (v := 0) hx d_Nights_fogComes_12 (by decide) ?_
    exact j_iret hx hq rfl d_Nights_fogComes_13 (by first | (first | exact (b2_f (fun z => z zc9)).symm | exact (b2_t zc9).symm) | fail) (by first | (first | exact (if_pos zc9).symm | exact (if_neg zc9).symm) | fail)

set_option maxRecDepth 20000 in
set_option maxHeartbeats 4000000 in
theorem c_Nights_nextNight {l : Launch} {G : Gz} (hG : zI G) {o : Nat} (ho_o : isNights o) (σ : St) : MI l G y_Nights_nextNight prog_6_method_10_code 1 .boolean 2 [.ref (G.1 (o))] σ 1 (rs (rs (nad σ o 0 1) (o + 1) 29 1 0) (o + 1) 29 7 0) := by
  refine MI.of hG (by decide) (Nat.le_of_ble_eq_true rfl) (fun X hx hq => ?_)
  show J l G X 1 σ 0 [(0, .ref (G.1 (o)))] []
  refine j_aload_n hx d_Nights_nextNight_0 rfl 0 rfl ?_
  refine j_get hx ck_Nights 0 (by decide) t_228 (by have := ho_o.1; omega) (ho_o.2.1 _ _) rfl d_Nights_nextNight_1 ?_
  refine j_iconst (v := 0) hx d_Nights_nextNight_4 (by decide) ?_
  refine j_iconst (v := 1) hx d_Nights_nextNight_5 (by decide) ?_
  refine j_callVv hx (c_Row_addA hG ho_o.2.2 (o + 2) rfl σ 0 1) mo_Row_add mv_Row_add t_912 (by decide) rfl (by have := ho_o.2.2.1; omega) (ho_o.2.2.2.1 _ _) rfl rfl (Nat.le_of_ble_eq_true rfl) d_Nights_nextNight_6 ?_
  refine j_aload_n hx d_Nights_nextNight_9 rfl 0 rfl ?_
  refine j_get hx ck_Nights 0 (by decide) t_228 (by have := ho_o.1; omega) (ho_o.2.1 _ _) rfl d_Nights_nextNight_10 ?_
  refine j_iconst (v := 1) hx d_Nights_nextNight_13 (by decide) ?_
  refine j_iconst (v := 0) hx d_Nights_nextNight_14 (by decide) ?_
  refine j_callVv hx (c_Row_set hG ho_o.2.2 (rs σ (o + 1) 29 0 (rg (σ ((o + 1) + 1)) 29 0 + 1)) 1 0) mo_Row_set mv_Row_set t_783 (by decide) rfl (by have := ho_o.2.2.1; omega) (ho_o.2.2.2.1 _ _) rfl rfl (Nat.le_of_ble_eq_true rfl) d_Nights_nextNight_15 ?_
  refine j_aload_n hx d_Nights_nextNight_18 rfl 0 rfl ?_
  refine j_get hx ck_Nights 0 (by decide) t_228 (by have := ho_o.1; omega) (ho_o.2.1 _ _) rfl d_Nights_nextNight_19 ?_
  refine j_bipush (v := 7) hx d_Nights_nextNight_22 (by decide) ?_
  refine j_iconst (v := 0) hx d_Nights_nextNight_24 (by decide) ?_
  refine j_callVv hx (c_Row_set hG ho_o.2.2 (rs (rs σ (o + 1) 29 0 (rg (σ ((o + 1) + 1)) 29 0 + 1)) (o + 1) 29 1 0) 7 0) mo_Row_set mv_Row_set t_783 (by decide) rfl (by have := ho_o.2.2.1; omega) (ho_o.2.2.2.1 _ _) rfl rfl (Nat.le_of_ble_eq_true rfl) d_Nights_nextNight_25 ?_
  refine j_iconst (v := 1) hx d_Nights_nextNight_28 (by decide) ?_
  exact j_iret hx hq rfl d_Nights_nextNight_29 (by first | (first | rfl | (simp only []; done) | (simp []; done)) | fail) (by first | (first | rfl | (simp only []; done) | (simp []; done)) | fail)

set_option maxRecDepth 20000 in
set_option maxHeartbeats 4000000 in
theorem c_Nights_hasPassed {l : Launch} {G : Gz} (hG : zI G) {o : Nat} (ho_o : isNights o) (σ : St) (s : Int32) (w : Int32) : MV l G y_Nights_hasPassed prog_6_method_11_code 5 3 [.ref (G.1 (o)), .ref (G.1 4), .int s, .int w] σ (hps σ o s w) := by
  refine MV.of hG (by decide) (Nat.le_of_ble_eq_true rfl) (fun X hx hq => ?_)
  show J l G X 5 σ 0 [(0, .ref (G.1 (o))), (1, .ref (G.1 4)), (2, .int s), (3, .int w)] []
  refine j_aload_n hx d_Nights_hasPassed_0 rfl 0 rfl ?_
  refine j_get hx ck_Nights 0 (by decide) t_228 (by have := ho_o.1; omega) (ho_o.2.1 _ _) rfl d_Nights_hasPassed_1 ?_
  refine j_bipush (v := 7) hx d_Nights_hasPassed_4 (by decide) ?_
  refine j_aload_n hx d_Nights_hasPassed_6 rfl 0 rfl ?_
  refine j_get hx ck_Nights 0 (by decide) t_228 (by have := ho_o.1; omega) (ho_o.2.1 _ _) rfl d_Nights_hasPassed_7 ?_
  refine j_bipush (v := 7) hx d_Nights_hasPassed_10 (by decide) ?_
  refine j_callVi hx (c_Row_getA hG ho_o.2.2 (o + 2) rfl σ 7) mo_Row_get mv_Row_get t_436 (by decide) rfl (by have := ho_o.2.2.1; omega) (ho_o.2.2.2.1 _ _) rfl rfl (Nat.le_of_ble_eq_true rfl) d_Nights_hasPassed_12 ?_
  refine j_iconst (v := 1) hx d_Nights_hasPassed_15 (by decide) ?_
  refine j_iload_n hx d_Nights_hasPassed_16 rfl 2 rfl ?_
  refine j_ishl hx d_Nights_hasPassed_17 ?_
  refine j_ior hx d_Nights_hasPassed_18 ?_
  refine j_callVv hx (c_Row_set hG ho_o.2.2 σ 7 ((rg (σ ((o + 1) + 1)) 29 7) ||| (1 <<< (s &&& 31)))) mo_Row_set mv_Row_set t_783 (by decide) rfl (by have := ho_o.2.2.1; omega) (ho_o.2.2.2.1 _ _) rfl rfl (Nat.le_of_ble_eq_true rfl) d_Nights_hasPassed_19 ?_
  obtain ⟨s9_1, eg_1⟩ : ∃ z : St, z = hp1 σ o s := ⟨_, rfl⟩
  refine J.to (σ' := s9_1) (by rw [eg_1]; first | done | rfl) rfl ?_
  refine j_iload_n hx d_Nights_hasPassed_22 rfl 3 rfl ?_
  refine j_iconst (v := (-1)) hx d_Nights_hasPassed_23 (by decide) ?_
  refine j_icmp_ne (tgt := 28) hx d_Nights_hasPassed_24 (by decide) (fun zc24 => ?_) (fun zc24 => ?_)
  · skip
    refine j_aload_n hx d_Nights_hasPassed_28 rfl 1 rfl ?_
    refine j_iload_n hx d_Nights_hasPassed_29 rfl 2 rfl ?_
    refine j_iload_n hx d_Nights_hasPassed_30 rfl 3 rfl ?_
    refine j_callVi hx (c_Coast_parishCargo hG s9_1 s w) mo_Coast_parishCargo mv_Coast_parishCargo t_908 (by decide) rfl (by decide) (sh_4 _ _) rfl rfl (Nat.le_of_ble_eq_true rfl) d_Nights_hasPassed_31 ?_
    refine j_istore hx [(4, .int (pcg s9_1 s w)), (0, .ref (G.1 (o))), (1, .ref (G.1 4)), (2, .int s), (3, .int w)] d_Nights_hasPassed_34 (by decide) rfl ?_
    refine j_aload_n hx d_Nights_hasPassed_36 rfl 1 rfl ?_
    refine j_get hx ck_Nights 0 (by decide) t_228 (by have := ho_o.1; omega) (ho_o.2.1 _ _) rfl d_Nights_hasPassed_37 ?_
    refine j_iconst (v := 2) hx d_Nights_hasPassed_40 (by decide) ?_
    refine j_iconst (v := 1) hx d_Nights_hasPassed_41 (by decide) ?_
    refine j_callVv hx (c_Row_addA hG ho_o.2.2 (o + 2) rfl s9_1 2 1) mo_Row_add mv_Row_add t_912 (by decide) rfl (by have := ho_o.2.2.1; omega) (ho_o.2.2.2.1 _ _) rfl rfl (Nat.le_of_ble_eq_true rfl) d_Nights_hasPassed_42 ?_
    obtain ⟨s9_2, eg_2⟩ : ∃ z : St, z = nad s9_1 o 2 1 := ⟨_, rfl⟩
    refine J.to (σ' := s9_2) (by rw [eg_2]; first | done | rfl) rfl ?_
    refine j_aload_n hx d_Nights_hasPassed_45 rfl 1 rfl ?_
    refine j_get hx ck_Nights 0 (by decide) t_228 (by have := ho_o.1; omega) (ho_o.2.1 _ _) rfl d_Nights_hasPassed_46 ?_
    refine j_iconst (v := 3) hx d_Nights_hasPassed_49 (by decide) ?_
    refine j_iload hx d_Nights_hasPassed_50 0 rfl ?_
    refine j_callVv hx (c_Row_addA hG ho_o.2.2 (o + 2) rfl s9_2 3 (pcg s9_1 s w)) mo_Row_add mv_Row_add t_912 (by decide) rfl (by have := ho_o.2.2.1; omega) (ho_o.2.2.2.1 _ _) rfl rfl (Nat.le_of_ble_eq_true rfl) d_Nights_hasPassed_52 ?_
    obtain ⟨s9_3, eg_3⟩ : ∃ z : St, z = nad s9_2 o 3 (pcg s9_1 s w) := ⟨_, rfl⟩
    refine J.to (σ' := s9_3) (by rw [eg_3]; first | done | rfl) rfl ?_
    refine j_aload_n hx d_Nights_hasPassed_55 rfl 1 rfl ?_
    refine j_get hx ck_Nights 0 (by decide) t_228 (by have := ho_o.1; omega) (ho_o.2.1 _ _) rfl d_Nights_hasPassed_56 ?_
    refine j_iconst (v := 4) hx d_Nights_hasPassed_59 (by decide) ?_
    refine j_aload_n hx d_Nights_hasPassed_60 rfl 2 rfl ?_
    refine j_get hx ck_Coast 6 (by decide) t_104 (by decide) (sh_4 _ _) rfl d_Nights_hasPassed_61 ?_
    refine j_iload_n hx d_Nights_hasPassed_64 rfl 3 rfl ?_
    refine j_callVi hx (c_Row_getA hG ir_17 18 rfl s9_3 s) mo_Row_get mv_Row_get t_436 (by decide) rfl (by decide) (sh_17 _ _) rfl rfl (Nat.le_of_ble_eq_true rfl) d_Nights_hasPassed_65 ?_
    refine j_iload hx d_Nights_hasPassed_68 0 rfl ?_
    refine j_isub hx d_Nights_hasPassed_70 ?_
    refine j_callVv hx (c_Row_addA hG ho_o.2.2 (o + 2) rfl s9_3 4 ((rg (s9_3 (17 + 1)) 6 s) - (pcg s9_1 s w))) mo_Row_add mv_Row_add t_912 (by decide) rfl (by have := ho_o.2.2.1; omega) (ho_o.2.2.2.1 _ _) rfl rfl (Nat.le_of_ble_eq_true rfl) d_Nights_hasPassed_71 ?_
    obtain ⟨s9_4, eg_4⟩ : ∃ z : St, z = hp3 s9_3 o s w (pcg s9_1 s w) := ⟨_, rfl⟩
    refine J.to (σ' := s9_4) (by rw [eg_4]; first | done | rfl) rfl ?_
    refine j_aload_n hx d_Nights_hasPassed_74 rfl 1 rfl ?_
    refine j_get hx ck_Nights 0 (by decide) t_228 (by have := ho_o.1; omega) (ho_o.2.1 _ _) rfl d_Nights_hasPassed_75 ?_
    refine j_iconst (v := 5) hx d_Nights_hasPassed_78 (by decide) ?_
    refine j_aload_n hx d_Nights_hasPassed_79 rfl 2 rfl ?_
    refine j_iload_n hx d_Nights_hasPassed_80 rfl 3 rfl ?_
    refine j_iload_n hx d_Nights_hasPassed_81 rfl 4 rfl ?_
    refine j_callVi hx (c_Coast_alive hG s9_4 s w) mo_Coast_alive mv_Coast_alive t_913 (by decide) rfl (by decide) (sh_4 _ _) rfl rfl (Nat.le_of_ble_eq_true rfl) d_Nights_hasPassed_82 ?_
    refine j_callVv hx (c_Row_addA hG ho_o.2.2 (o + 2) rfl s9_4 5 (alv s9_4 s w)) mo_Row_add mv_Row_add t_912 (by decide) rfl (by have := ho_o.2.2.1; omega) (ho_o.2.2.2.1 _ _) rfl rfl (Nat.le_of_ble_eq_true rfl) d_Nights_hasPassed_85 ?_
    obtain ⟨s9_5, eg_5⟩ : ∃ z : St, z = hp4 s9_4 o s w := ⟨_, rfl⟩
    refine J.to (σ' := s9_5) (by rw [eg_5]; first | done | rfl) rfl ?_
    refine j_aload_n hx d_Nights_hasPassed_88 rfl 1 rfl ?_
    refine j_get hx ck_Nights 0 (by decide) t_228 (by have := ho_o.1; omega) (ho_o.2.1 _ _) rfl d_Nights_hasPassed_89 ?_
    refine j_bipush (v := 11) hx d_Nights_hasPassed_92 (by decide) ?_
    refine j_iload_n hx d_Nights_hasPassed_94 rfl 3 rfl ?_
    refine j_iadd hx d_Nights_hasPassed_95 ?_
    refine j_iconst (v := 1) hx d_Nights_hasPassed_96 (by decide) ?_
    refine j_callVv hx (c_Row_addA hG ho_o.2.2 (o + 2) rfl s9_5 (11 + s) 1) mo_Row_add mv_Row_add t_912 (by decide) rfl (by have := ho_o.2.2.1; omega) (ho_o.2.2.2.1 _ _) rfl rfl (Nat.le_of_ble_eq_true rfl) d_Nights_hasPassed_97 ?_
    obtain ⟨s9_6, eg_6⟩ : ∃ z : St, z = nad s9_5 o (11 + s) 1 := ⟨_, rfl⟩
    refine J.to (σ' := s9_6) (by rw [eg_6]; first | done | rfl) rfl ?_
    refine j_aload_n hx d_Nights_hasPassed_100 rfl 1 rfl ?_
    refine j_get hx ck_Nights 0 (by decide) t_228 (by have := ho_o.1; omega) (ho_o.2.1 _ _) rfl d_Nights_hasPassed_101 ?_
    refine j_bipush (v := 17) hx d_Nights_hasPassed_104 (by decide) ?_
    refine j_iload_n hx d_Nights_hasPassed_106 rfl 4 rfl ?_
    refine j_iadd hx d_Nights_hasPassed_107 ?_
    refine j_iconst (v := 1) hx d_Nights_hasPassed_108 (by decide) ?_
    refine j_callVv hx (c_Row_addA hG ho_o.2.2 (o + 2) rfl s9_6 (17 + w) 1) mo_Row_add mv_Row_add t_912 (by decide) rfl (by have := ho_o.2.2.1; omega) (ho_o.2.2.2.1 _ _) rfl rfl (Nat.le_of_ble_eq_true rfl) d_Nights_hasPassed_109 ?_
    exact j_vret hx hq d_Nights_hasPassed_112 (by first | (rw [eg_6, eg_5, eg_4, eg_3, eg_2, eg_1]; exact (if_neg zc24).symm) | fail)
  · skip
    exact j_vret hx hq d_Nights_hasPassed_27 (by first | (rw [eg_1]; exact (if_pos zc24).symm) | fail)

set_option maxRecDepth 20000 in
set_option maxHeartbeats 4000000 in
theorem c_Nights_lightsIn {l : Launch} {G : Gz} (hG : zI G) {o : Nat} (ho_o : isNights o) (σ : St) (c : Int32) : MI l G y_Nights_lightsIn prog_6_method_12_code 5 .int 3 [.ref (G.1 (o)), .ref (G.1 4), .int c] σ (sm (fun l => b2 (liP σ o c l)) (ct (cM σ 1))) σ := by
  refine MI.of hG (by decide) (Nat.le_of_ble_eq_true rfl) (fun X hx hq => ?_)
  show J l G X 5 σ 0 [(0, .ref (G.1 (o))), (1, .ref (G.1 4)), (2, .int c)] []
  refine j_iconst (v := 0) hx d_Nights_lightsIn_0 (by decide) ?_
  refine j_istore_n hx [(3, .int 0), (0, .ref (G.1 (o))), (1, .ref (G.1 4)), (2, .int c)] d_Nights_lightsIn_1 rfl (by decide) rfl ?_
  refine j_iconst (v := 0) hx d_Nights_lightsIn_2 (by decide) ?_
  refine j_istore hx [(4, .int 0), (3, .int 0), (0, .ref (G.1 (o))), (1, .ref (G.1 4)), (2, .int c)] d_Nights_lightsIn_3 (by decide) rfl ?_
  have hl5 : ∀ (N9 : Nat) (i : Nat), (i ≤ (ct (cM σ 1))) → (ct (cM σ 1)) - i = N9 → J l G X 5 σ 5 [(0, .ref (G.1 (o))), (1, .ref (G.1 4)), (2, .int c), (3, .int (sm (fun l => b2 (liP σ o c l)) i)), (4, .int (nI i))] [] := by
    intro N9
    induction N9 using Nat.strongRecOn with
    | _ N9 ih5 =>
      intro i hi_i hm5
      refine j_iload hx d_Nights_lightsIn_5 4 rfl ?_
      refine j_aload_n hx d_Nights_lightsIn_7 rfl 1 rfl ?_
      refine j_get hx ck_Coast 0 (by decide) t_83 (by decide) (sh_4 _ _) rfl d_Nights_lightsIn_8 ?_
      refine j_iconst (v := 1) hx d_Nights_lightsIn_11 (by decide) ?_
      refine j_callVi hx (c_Row_getA hG ir_5 6 rfl σ 1) mo_Row_get mv_Row_get t_436 (by decide) rfl (by decide) (sh_5 _ _) rfl rfl (Nat.le_of_ble_eq_true rfl) d_Nights_lightsIn_12 ?_
      refine j_icmp_ge (tgt := 54) hx d_Nights_lightsIn_15 (by decide) (fun zc15 => ?_) (fun zc15 => ?_)
      · skip
        obtain rfl := ct_end' hi_i zc15
        refine j_iload_n hx d_Nights_lightsIn_54 rfl 3 rfl ?_
        exact j_iret hx hq rfl d_Nights_lightsIn_55 (by first | (first | rfl | (simp only [zc15]; done) | (simp [zc15]; done)) | fail) (by first | (first | rfl | (simp only [zc15]; done) | (simp [zc15]; done)) | fail)
      · skip
        have hlt5 := ct_go hi_i zc15
        refine j_iload_n hx d_Nights_lightsIn_18 rfl 3 rfl ?_
        refine j_aload_n hx d_Nights_lightsIn_19 rfl 0 rfl ?_
        refine j_iload hx d_Nights_lightsIn_20 4 rfl ?_
        refine j_callVi hx (c_Nights_burns hG ho_o σ (nI i)) mo_Nights_burns mv_Nights_burns t_886 (by decide) rfl (by have := ho_o.1; omega) (ho_o.2.1 _ _) rfl rfl (Nat.le_of_ble_eq_true rfl) d_Nights_lightsIn_22 ?_
        refine j_if_eq (tgt := 45) hx d_Nights_lightsIn_25 (by decide) (fun zc25 => ?_) (fun zc25 => ?_)
        · skip
          refine j_iconst (v := 0) hx d_Nights_lightsIn_45 (by decide) ?_
          refine j_iadd hx d_Nights_lightsIn_46 ?_
          refine j_istore_n hx [(3, .int ((sm (fun l => b2 (liP σ o c l)) i) + 0)), (0, .ref (G.1 (o))), (1, .ref (G.1 4)), (2, .int c), (4, .int (nI i))] d_Nights_lightsIn_47 rfl (by decide) rfl ?_
          refine j_iinc hx [(4, .int ((nI i) + 1)), (3, .int ((sm (fun l => b2 (liP σ o c l)) i) + 0)), (0, .ref (G.1 (o))), (1, .ref (G.1 4)), (2, .int c)] d_Nights_lightsIn_48 4 rfl rfl (by decide) rfl ?_
          refine j_goto (tgt := 5) hx d_Nights_lightsIn_51 (by decide) ?_
          refine J.lsub (ls' := [(0, .ref (G.1 (o))), (1, .ref (G.1 4)), (2, .int c), (3, .int ((sm (fun l => b2 (liP σ o c l)) i) + 0)), (4, .int ((nI i) + 1))]) [2, 3, 4, 1, 0] rfl ?_
          refine J.to ?_ ?_ (ih5 _ ?_ (i + 1) hlt5 rfl)
          · first | (first | rfl | (simp [zc15, zc25]; done)) | fail
          · first | (simp only [nI_s, sm_s]; first | rw [b2_t (p := liP σ o c i) ⟨b2_nz zc25, zc38⟩] | rw [b2_f (p := liP σ o c i) (fun z => zc38 z.2)] | rw [b2_f (p := liP σ o c i) (fun z => b2_z zc25 z.1)]) | fail
          · first | (omega) | fail
        · skip
          refine j_aload_n hx d_Nights_lightsIn_28 rfl 1 rfl ?_
          refine j_get hx ck_Coast 2 (by decide) t_93 (by decide) (sh_4 _ _) rfl d_Nights_lightsIn_29 ?_
          refine j_iload hx d_Nights_lightsIn_32 4 rfl ?_
          refine j_callVi hx (c_Row_getA hG ir_9 10 rfl σ (nI i)) mo_Row_get mv_Row_get t_436 (by decide) rfl (by decide) (sh_9 _ _) rfl rfl (Nat.le_of_ble_eq_true rfl) d_Nights_lightsIn_34 ?_
          refine j_iload_n hx d_Nights_lightsIn_37 rfl 2 rfl ?_
          refine j_icmp_ne (tgt := 45) hx d_Nights_lightsIn_38 (by decide) (fun zc38 => ?_) (fun zc38 => ?_)
          · skip
            refine j_iconst (v := 0) hx d_Nights_lightsIn_45 (by decide) ?_
            refine j_iadd hx d_Nights_lightsIn_46 ?_
            refine j_istore_n hx [(3, .int ((sm (fun l => b2 (liP σ o c l)) i) + 0)), (0, .ref (G.1 (o))), (1, .ref (G.1 4)), (2, .int c), (4, .int (nI i))] d_Nights_lightsIn_47 rfl (by decide) rfl ?_
            refine j_iinc hx [(4, .int ((nI i) + 1)), (3, .int ((sm (fun l => b2 (liP σ o c l)) i) + 0)), (0, .ref (G.1 (o))), (1, .ref (G.1 4)), (2, .int c)] d_Nights_lightsIn_48 4 rfl rfl (by decide) rfl ?_
            refine j_goto (tgt := 5) hx d_Nights_lightsIn_51 (by decide) ?_
            refine J.lsub (ls' := [(0, .ref (G.1 (o))), (1, .ref (G.1 4)), (2, .int c), (3, .int ((sm (fun l => b2 (liP σ o c l)) i) + 0)), (4, .int ((nI i) + 1))]) [2, 3, 4, 1, 0] rfl ?_
            refine J.to ?_ ?_ (ih5 _ ?_ (i + 1) hlt5 rfl)
            · first | (first | rfl | (simp [zc15, zc25, zc38]; done)) | fail
            · first | (simp only [nI_s, sm_s]; first | rw [b2_t (p := liP σ o c i) ⟨b2_nz zc25, zc38⟩] | rw [b2_f (p := liP σ o c i) (fun z => zc38 z.2)] | rw [b2_f (p := liP σ o c i) (fun z => b2_z zc25 z.1)]) | fail
            · first | (omega) | fail
          · skip
            refine j_iconst (v := 1) hx d_Nights_lightsIn_41 (by decide) ?_
            refine j_goto (tgt := 46) hx d_Nights_lightsIn_42 (by decide) ?_
            refine j_iadd hx d_Nights_lightsIn_46 ?_
            refine j_istore_n hx [(3, .int ((sm (fun l => b2 (liP σ o c l)) i) + 1)), (0, .ref (G.1 (o))), (1, .ref (G.1 4)), (2, .int c), (4, .int (nI i))] d_Nights_lightsIn_47 rfl (by decide) rfl ?_
            refine j_iinc hx [(4, .int ((nI i) + 1)), (3, .int ((sm (fun l => b2 (liP σ o c l)) i) + 1)), (0, .ref (G.1 (o))), (1, .ref (G.1 4)), (2, .int c)] d_Nights_lightsIn_48 4 rfl rfl (by decide) rfl ?_
            refine j_goto (tgt := 5) hx d_Nights_lightsIn_51 (by decide) ?_
            refine J.lsub (ls' := [(0, .ref (G.1 (o))), (1, .ref (G.1 4)), (2, .int c), (3, .int ((sm (fun l => b2 (liP σ o c l)) i) + 1)), (4, .int ((nI i) + 1))]) [2, 3, 4, 1, 0] rfl ?_
            refine J.to ?_ ?_ (ih5 _ ?_ (i + 1) hlt5 rfl)
            · first | (first | rfl | (simp [zc15, zc25, zc38]; done)) | fail
            · first | (simp only [nI_s, sm_s]; first | rw [b2_t (p := liP σ o c i) ⟨b2_nz zc25, zc38⟩] | rw [b2_f (p := liP σ o c i) (fun z => zc38 z.2)] | rw [b2_f (p := liP σ o c i) (fun z => b2_z zc25 z.1)]) | fail
            · first | (omega) | fail
  refine J.lsub (ls' := [(0, .ref (G.1 (o))), (1, .ref (G.1 4)), (2, .int c), (3, .int 0), (4, .int 0)]) [2, 3, 4, 1, 0] rfl ?_
  refine J.to ?_ ?_ (hl5 _ 0 (Nat.zero_le _) rfl)
  · first | (first | rfl | (simp []; done)) | fail
  · first | (first | rfl | (simp only [nI_s]; done) | (simp only [nI_s, it_s]; done) | (simp [nI_s, it_s, ]; done)) | fail

set_option maxRecDepth 20000 in
set_option maxHeartbeats 4000000 in
theorem c_Nights_donkeysIn {l : Launch} {G : Gz} (hG : zI G) {o : Nat} (ho_o : isNights o) (σ : St) (c : Int32) : MI l G y_Nights_donkeysIn prog_6_method_13_code 5 .int 3 [.ref (G.1 (o)), .ref (G.1 4), .int c] σ (sm (fun d => b2 (rg (σ (o + 2)) 29 (8 + nI d) = c)) (ct (cM σ 2))) σ := by
  refine MI.of hG (by decide) (Nat.le_of_ble_eq_true rfl) (fun X hx hq => ?_)
  show J l G X 5 σ 0 [(0, .ref (G.1 (o))), (1, .ref (G.1 4)), (2, .int c)] []
  refine j_iconst (v := 0) hx d_Nights_donkeysIn_0 (by decide) ?_
  refine j_istore_n hx [(3, .int 0), (0, .ref (G.1 (o))), (1, .ref (G.1 4)), (2, .int c)] d_Nights_donkeysIn_1 rfl (by decide) rfl ?_
  refine j_iconst (v := 0) hx d_Nights_donkeysIn_2 (by decide) ?_
  refine j_istore hx [(4, .int 0), (3, .int 0), (0, .ref (G.1 (o))), (1, .ref (G.1 4)), (2, .int c)] d_Nights_donkeysIn_3 (by decide) rfl ?_
  have hl5 : ∀ (N9 : Nat) (i : Nat), (i ≤ (ct (cM σ 2))) → (ct (cM σ 2)) - i = N9 → J l G X 5 σ 5 [(0, .ref (G.1 (o))), (1, .ref (G.1 4)), (2, .int c), (3, .int (sm (fun d => b2 (rg (σ (o + 2)) 29 (8 + nI d) = c)) i)), (4, .int (nI i))] [] := by
    intro N9
    induction N9 using Nat.strongRecOn with
    | _ N9 ih5 =>
      intro i hi_i hm5
      refine j_iload hx d_Nights_donkeysIn_5 4 rfl ?_
      refine j_aload_n hx d_Nights_donkeysIn_7 rfl 1 rfl ?_
      refine j_get hx ck_Coast 0 (by decide) t_83 (by decide) (sh_4 _ _) rfl d_Nights_donkeysIn_8 ?_
      refine j_iconst (v := 2) hx d_Nights_donkeysIn_11 (by decide) ?_
      refine j_callVi hx (c_Row_getA hG ir_5 6 rfl σ 2) mo_Row_get mv_Row_get t_436 (by decide) rfl (by decide) (sh_5 _ _) rfl rfl (Nat.le_of_ble_eq_true rfl) d_Nights_donkeysIn_12 ?_
      refine j_icmp_ge (tgt := 48) hx d_Nights_donkeysIn_15 (by decide) (fun zc15 => ?_) (fun zc15 => ?_)
      · skip
        obtain rfl := ct_end' hi_i zc15
        refine j_iload_n hx d_Nights_donkeysIn_48 rfl 3 rfl ?_
        exact j_iret hx hq rfl d_Nights_donkeysIn_49 (by first | (first | rfl | (simp only [zc15]; done) | (simp [zc15]; done)) | fail) (by first | (first | rfl | (simp only [zc15]; done) | (simp [zc15]; done)) | fail)
      · skip
        have hlt5 := ct_go hi_i zc15
        refine j_iload_n hx d_Nights_donkeysIn_18 rfl 3 rfl ?_
        refine j_aload_n hx d_Nights_donkeysIn_19 rfl 0 rfl ?_
        refine j_get hx ck_Nights 0 (by decide) t_228 (by have := ho_o.1; omega) (ho_o.2.1 _ _) rfl d_Nights_donkeysIn_20 ?_
        refine j_bipush (v := 8) hx d_Nights_donkeysIn_23 (by decide) ?_
        refine j_iload hx d_Nights_donkeysIn_25 4 rfl ?_
        refine j_iadd hx d_Nights_donkeysIn_27 ?_
        refine j_callVi hx (c_Row_getA hG ho_o.2.2 (o + 2) rfl σ (8 + (nI i))) mo_Row_get mv_Row_get t_436 (by decide) rfl (by have := ho_o.2.2.1; omega) (ho_o.2.2.2.1 _ _) rfl rfl (Nat.le_of_ble_eq_true rfl) d_Nights_donkeysIn_28 ?_
        refine j_iload_n hx d_Nights_donkeysIn_31 rfl 2 rfl ?_
        refine j_icmp_ne (tgt := 39) hx d_Nights_donkeysIn_32 (by decide) (fun zc32 => ?_) (fun zc32 => ?_)
        · skip
          refine j_iconst (v := 0) hx d_Nights_donkeysIn_39 (by decide) ?_
          refine j_iadd hx d_Nights_donkeysIn_40 ?_
          refine j_istore_n hx [(3, .int ((sm (fun d => b2 (rg (σ (o + 2)) 29 (8 + nI d) = c)) i) + 0)), (0, .ref (G.1 (o))), (1, .ref (G.1 4)), (2, .int c), (4, .int (nI i))] d_Nights_donkeysIn_41 rfl (by decide) rfl ?_
          refine j_iinc hx [(4, .int ((nI i) + 1)), (3, .int ((sm (fun d => b2 (rg (σ (o + 2)) 29 (8 + nI d) = c)) i) + 0)), (0, .ref (G.1 (o))), (1, .ref (G.1 4)), (2, .int c)] d_Nights_donkeysIn_42 4 rfl rfl (by decide) rfl ?_
          refine j_goto (tgt := 5) hx d_Nights_donkeysIn_45 (by decide) ?_
          refine J.lsub (ls' := [(0, .ref (G.1 (o))), (1, .ref (G.1 4)), (2, .int c), (3, .int ((sm (fun d => b2 (rg (σ (o + 2)) 29 (8 + nI d) = c)) i) + 0)), (4, .int ((nI i) + 1))]) [2, 3, 4, 1, 0] rfl ?_
          refine J.to ?_ ?_ (ih5 _ ?_ (i + 1) hlt5 rfl)
          · first | (first | rfl | (simp [zc15, zc32]; done)) | fail
          · first | (simp only [nI_s, sm_s]; first | rw [b2_t (p := rg (σ (o + 2)) 29 (8 + nI i) = c) zc32] | rw [b2_f (p := rg (σ (o + 2)) 29 (8 + nI i) = c) zc32]) | fail
          · first | (omega) | fail
        · skip
          refine j_iconst (v := 1) hx d_Nights_donkeysIn_35 (by decide) ?_
          refine j_goto (tgt := 40) hx d_Nights_donkeysIn_36 (by decide) ?_
          refine j_iadd hx d_Nights_donkeysIn_40 ?_
          refine j_istore_n hx [(3, .int ((sm (fun d => b2 (rg (σ (o + 2)) 29 (8 + nI d) = c)) i) + 1)), (0, .ref (G.1 (o))), (1, .ref (G.1 4)), (2, .int c), (4, .int (nI i))] d_Nights_donkeysIn_41 rfl (by decide) rfl ?_
          refine j_iinc hx [(4, .int ((nI i) + 1)), (3, .int ((sm (fun d => b2 (rg (σ (o + 2)) 29 (8 + nI d) = c)) i) + 1)), (0, .ref (G.1 (o))), (1, .ref (G.1 4)), (2, .int c)] d_Nights_donkeysIn_42 4 rfl rfl (by decide) rfl ?_
          refine j_goto (tgt := 5) hx d_Nights_donkeysIn_45 (by decide) ?_
          refine J.lsub (ls' := [(0, .ref (G.1 (o))), (1, .ref (G.1 4)), (2, .int c), (3, .int ((sm (fun d => b2 (rg (σ (o + 2)) 29 (8 + nI d) = c)) i) + 1)), (4, .int ((nI i) + 1))]) [2, 3, 4, 1, 0] rfl ?_
          refine J.to ?_ ?_ (ih5 _ ?_ (i + 1) hlt5 rfl)
          · first | (first | rfl | (simp [zc15, zc32]; done)) | fail
          · first | (simp only [nI_s, sm_s]; first | rw [b2_t (p := rg (σ (o + 2)) 29 (8 + nI i) = c) zc32] | rw [b2_f (p := rg (σ (o + 2)) 29 (8 + nI i) = c) zc32]) | fail
          · first | (omega) | fail
  refine J.lsub (ls' := [(0, .ref (G.1 (o))), (1, .ref (G.1 4)), (2, .int c), (3, .int 0), (4, .int 0)]) [2, 3, 4, 1, 0] rfl ?_
  refine J.to ?_ ?_ (hl5 _ 0 (Nat.zero_le _) rfl)
  · first | (first | rfl | (simp []; done)) | fail
  · first | (first | rfl | (simp only [nI_s]; done) | (simp only [nI_s, it_s]; done) | (simp [nI_s, it_s, ]; done)) | fail

set_option maxRecDepth 20000 in
set_option maxHeartbeats 4000000 in
theorem c_Nights_reach {l : Launch} {G : Gz} (hG : zI G) {o : Nat} (ho_o : isNights o) (σ : St) : MI l G y_Nights_reach prog_6_method_14_code 2 .int 2 [.ref (G.1 (o)), .ref (G.1 4)] σ (rch σ o) σ := by
  refine MI.of hG (by decide) (Nat.le_of_ble_eq_true rfl) (fun X hx hq => ?_)
  show J l G X 2 σ 0 [(0, .ref (G.1 (o))), (1, .ref (G.1 4))] []
  refine j_aload_n hx d_Nights_reach_0 rfl 0 rfl ?_
  refine j_get hx ck_Nights 0 (by decide) t_228 (by have := ho_o.1; omega) (ho_o.2.1 _ _) rfl d_Nights_reach_1 ?_
  refine j_iconst (v := 1) hx d_Nights_reach_4 (by decide) ?_
  refine j_callVi hx (c_Row_getA hG ho_o.2.2 (o + 2) rfl σ 1) mo_Row_get mv_Row_get t_436 (by decide) rfl (by have := ho_o.2.2.1; omega) (ho_o.2.2.2.1 _ _) rfl rfl (Nat.le_of_ble_eq_true rfl) d_Nights_reach_5 ?_
  refine j_iconst (v := 1) hx d_Nights_reach_8 (by decide) ?_
  refine j_icmp_ne (tgt := 21) hx d_Nights_reach_9 (by decide) (fun zc9 => ?_) (fun zc9 => ?_)
  · skip
    refine j_aload_n hx d_Nights_reach_21 rfl 1 rfl ?_
    refine j_callVi hx (c_Coast_sight hG σ) mo_Coast_sight mv_Coast_sight t_445 (by decide) rfl (by decide) (sh_4 _ _) rfl rfl (Nat.le_of_ble_eq_true rfl) d_Nights_reach_22 ?_
    exact j_iret hx hq rfl d_Nights_reach_25 (by first | (first | exact (if_pos zc9).symm | exact (if_neg zc9).symm) | fail) (by first | (first | rfl | (simp only [zc9]; done) | (simp [zc9]; done)) | fail)
  · skip
    refine j_aload_n hx d_Nights_reach_12 rfl 1 rfl ?_
    refine j_callVi hx (c_Coast_sight hG σ) mo_Coast_sight mv_Coast_sight t_445 (by decide) rfl (by decide) (sh_4 _ _) rfl rfl (Nat.le_of_ble_eq_true rfl) d_Nights_reach_13 ?_
    refine j_iconst (v := 2) hx d_Nights_reach_16 (by decide) ?_
    refine j_idiv hx d_Nights_reach_17 (by first | assumption | decide) ?_
    refine j_goto (tgt := 25) hx d_Nights_reach_18 (by decide) ?_
    exact j_iret hx hq rfl d_Nights_reach_25 (by first | (first | exact (if_pos zc9).symm | exact (if_neg zc9).symm) | fail) (by first | (first | rfl | (simp only [zc9]; done) | (simp [zc9]; done)) | fail)

set_option maxRecDepth 20000 in
set_option maxHeartbeats 4000000 in
theorem c_Nights_lightFlashes {l : Launch} {G : Gz} (hG : zI G) {o : Nat} (ho_o : isNights o) (σ : St) (c : Int32) (m : Int32) (r : Int32) : MI l G y_Nights_lightFlashes prog_6_method_15_code 11 .int 3 [.ref (G.1 (o)), .ref (G.1 4), .int c, .int m, .int r] σ (lfl σ o c m r) σ := by
  refine MI.of hG (by decide) (Nat.le_of_ble_eq_true rfl) (fun X hx hq => ?_)
  show J l G X 11 σ 0 [(0, .ref (G.1 (o))), (1, .ref (G.1 4)), (2, .int c), (3, .int m), (4, .int r)] []
  refine j_aload_n hx d_Nights_lightFlashes_0 rfl 0 rfl ?_
  refine j_get hx ck_Nights 0 (by decide) t_228 (by have := ho_o.1; omega) (ho_o.2.1 _ _) rfl d_Nights_lightFlashes_1 ?_
  refine j_bipush (v := 6) hx d_Nights_lightFlashes_4 (by decide) ?_
  refine j_callVi hx (c_Row_getA hG ho_o.2.2 (o + 2) rfl σ 6) mo_Row_get mv_Row_get t_436 (by decide) rfl (by have := ho_o.2.2.1; omega) (ho_o.2.2.2.1 _ _) rfl rfl (Nat.le_of_ble_eq_true rfl) d_Nights_lightFlashes_6 ?_
  refine j_istore hx [(5, .int (rg (σ ((o + 1) + 1)) 29 6)), (0, .ref (G.1 (o))), (1, .ref (G.1 4)), (2, .int c), (3, .int m), (4, .int r)] d_Nights_lightFlashes_9 (by decide) rfl ?_
  refine j_aload_n hx d_Nights_lightFlashes_11 rfl 2 rfl ?_
  refine j_get hx ck_Coast 0 (by decide) t_83 (by decide) (sh_4 _ _) rfl d_Nights_lightFlashes_12 ?_
  refine j_iconst (v := 1) hx d_Nights_lightFlashes_15 (by decide) ?_
  refine j_callVi hx (c_Row_getA hG ir_5 6 rfl σ 1) mo_Row_get mv_Row_get t_436 (by decide) rfl (by decide) (sh_5 _ _) rfl rfl (Nat.le_of_ble_eq_true rfl) d_Nights_lightFlashes_16 ?_
  refine j_istore hx [(6, .int (rg (σ (5 + 1)) 6 1)), (5, .int (rg (σ ((o + 1) + 1)) 29 6)), (0, .ref (G.1 (o))), (1, .ref (G.1 4)), (2, .int c), (3, .int m), (4, .int r)] d_Nights_lightFlashes_19 (by decide) rfl ?_
  refine j_iconst (v := 0) hx d_Nights_lightFlashes_21 (by decide) ?_
  refine j_istore hx [(7, .int 0), (6, .int (rg (σ (5 + 1)) 6 1)), (5, .int (rg (σ ((o + 1) + 1)) 29 6)), (0, .ref (G.1 (o))), (1, .ref (G.1 4)), (2, .int c), (3, .int m), (4, .int r)] d_Nights_lightFlashes_22 (by decide) rfl ?_
  refine j_iconst (v := 0) hx d_Nights_lightFlashes_24 (by decide) ?_
  refine j_istore hx [(8, .int 0), (7, .int 0), (6, .int (rg (σ (5 + 1)) 6 1)), (5, .int (rg (σ ((o + 1) + 1)) 29 6)), (0, .ref (G.1 (o))), (1, .ref (G.1 4)), (2, .int c), (3, .int m), (4, .int r)] d_Nights_lightFlashes_25 (by decide) rfl ?_
  have hl27 : ∀ (N9 : Nat) (i : Nat), (i ≤ (ct (cM σ 1))) → (ct (cM σ 1)) - i = N9 → J l G X 11 σ 27 [(0, .ref (G.1 (o))), (1, .ref (G.1 4)), (2, .int c), (3, .int m), (4, .int r), (5, .int (rg (σ ((o + 1) + 1)) 29 6)), (6, .int (rg (σ (5 + 1)) 6 1)), (7, .int (sm (fun l => b2 (lfP σ o c m r l)) i)), (8, .int (nI i))] [] := by
    intro N9
    induction N9 using Nat.strongRecOn with
    | _ N9 ih27 =>
      intro i hi_i hm27
      refine j_iload hx d_Nights_lightFlashes_27 8 rfl ?_
      refine j_iload hx d_Nights_lightFlashes_29 6 rfl ?_
      refine j_icmp_ge (tgt := 96) hx d_Nights_lightFlashes_31 (by decide) (fun zc31 => ?_) (fun zc31 => ?_)
      · skip
        obtain rfl := ct_end' hi_i zc31
        refine j_iload hx d_Nights_lightFlashes_96 7 rfl ?_
        exact j_iret hx hq rfl d_Nights_lightFlashes_98 (by first | (first | rfl | (simp only [zc31]; done) | (simp [zc31]; done)) | fail) (by first | (first | rfl | (simp only [zc31]; done) | (simp [zc31]; done)) | fail)
      · skip
        have hlt27 := ct_go hi_i zc31
        refine j_aload_n hx d_Nights_lightFlashes_34 rfl 1 rfl ?_
        refine j_get hx ck_Coast 2 (by decide) t_93 (by decide) (sh_4 _ _) rfl d_Nights_lightFlashes_35 ?_
        refine j_iload hx d_Nights_lightFlashes_38 8 rfl ?_
        refine j_callVi hx (c_Row_getA hG ir_9 10 rfl σ (nI i)) mo_Row_get mv_Row_get t_436 (by decide) rfl (by decide) (sh_9 _ _) rfl rfl (Nat.le_of_ble_eq_true rfl) d_Nights_lightFlashes_40 ?_
        refine j_istore hx [(9, .int (rg (σ (9 + 1)) 6 (nI i))), (0, .ref (G.1 (o))), (1, .ref (G.1 4)), (2, .int c), (3, .int m), (4, .int r), (5, .int (rg (σ ((o + 1) + 1)) 29 6)), (6, .int (rg (σ (5 + 1)) 6 1)), (7, .int (sm (fun l => b2 (lfP σ o c m r l)) i)), (8, .int (nI i))] d_Nights_lightFlashes_43 (by decide) rfl ?_
        refine j_aload_n hx d_Nights_lightFlashes_45 rfl 2 rfl ?_
        refine j_get hx ck_Coast 3 (by decide) t_96 (by decide) (sh_4 _ _) rfl d_Nights_lightFlashes_46 ?_
        refine j_iload hx d_Nights_lightFlashes_49 9 rfl ?_
        refine j_callVi hx (c_Row_getA hG ir_11 12 rfl σ (nI i)) mo_Row_get mv_Row_get t_436 (by decide) rfl (by decide) (sh_11 _ _) rfl rfl (Nat.le_of_ble_eq_true rfl) d_Nights_lightFlashes_51 ?_
        refine j_istore hx [(10, .int (rg (σ (11 + 1)) 6 (nI i))), (9, .int (rg (σ (9 + 1)) 6 (nI i))), (0, .ref (G.1 (o))), (1, .ref (G.1 4)), (2, .int c), (3, .int m), (4, .int r), (5, .int (rg (σ ((o + 1) + 1)) 29 6)), (6, .int (rg (σ (5 + 1)) 6 1)), (7, .int (sm (fun l => b2 (lfP σ o c m r l)) i)), (8, .int (nI i))] d_Nights_lightFlashes_54 (by decide) rfl ?_
        refine j_iload hx d_Nights_lightFlashes_56 9 rfl ?_
        refine j_iload hx d_Nights_lightFlashes_58 7 rfl ?_
        refine j_iload hx d_Nights_lightFlashes_60 10 rfl ?_
        refine j_callNi hx (c_DL_hasBit hG σ (rg (σ ((o + 1) + 1)) 29 6) (nI i)) mo_DL_hasBit t_455 t_454 (by decide) rfl rfl (Nat.le_of_ble_eq_true rfl) d_Nights_lightFlashes_62 ?_
        refine j_if_eq (tgt := 86) hx d_Nights_lightFlashes_65 (by decide) (fun zc65 => ?_) (fun zc65 => ?_)
        · skip
          refine j_iconst (v := 0) hx d_Nights_lightFlashes_86 (by decide) ?_
          refine j_iadd hx d_Nights_lightFlashes_87 ?_
          refine j_istore hx [(7, .int ((sm (fun l => b2 (lfP σ o c m r l)) i) + 0)), (10, .int (rg (σ (11 + 1)) 6 (nI i))), (9, .int (rg (σ (9 + 1)) 6 (nI i))), (0, .ref (G.1 (o))), (1, .ref (G.1 4)), (2, .int c), (3, .int m), (4, .int r), (5, .int (rg (σ ((o + 1) + 1)) 29 6)), (6, .int (rg (σ (5 + 1)) 6 1)), (8, .int (nI i))] d_Nights_lightFlashes_88 (by decide) rfl ?_
          refine j_iinc hx [(8, .int ((nI i) + 1)), (7, .int ((sm (fun l => b2 (lfP σ o c m r l)) i) + 0)), (10, .int (rg (σ (11 + 1)) 6 (nI i))), (9, .int (rg (σ (9 + 1)) 6 (nI i))), (0, .ref (G.1 (o))), (1, .ref (G.1 4)), (2, .int c), (3, .int m), (4, .int r), (5, .int (rg (σ ((o + 1) + 1)) 29 6)), (6, .int (rg (σ (5 + 1)) 6 1))] d_Nights_lightFlashes_90 10 rfl rfl (by decide) rfl ?_
          refine j_goto (tgt := 27) hx d_Nights_lightFlashes_93 (by decide) ?_
          refine J.lsub (ls' := [(0, .ref (G.1 (o))), (1, .ref (G.1 4)), (2, .int c), (3, .int m), (4, .int r), (5, .int (rg (σ ((o + 1) + 1)) 29 6)), (6, .int (rg (σ (5 + 1)) 6 1)), (7, .int ((sm (fun l => b2 (lfP σ o c m r l)) i) + 0)), (8, .int ((nI i) + 1))]) [4, 5, 6, 7, 8, 9, 10, 1, 0] rfl ?_
          refine J.to ?_ ?_ (ih27 _ ?_ (i + 1) hlt27 rfl)
          · first | (first | rfl | (simp [zc31, zc65]; done)) | fail
          · first | (simp only [nI_s, sm_s]; first | rw [b2_t (p := lfP σ o c m r i) ⟨b2_nz zc65, b2_nz zc79⟩] | rw [b2_f (p := lfP σ o c m r i) (fun z => b2_z zc79 z.2)] | rw [b2_f (p := lfP σ o c m r i) (fun z => b2_z zc65 z.1)]) | fail
          · first | (omega) | fail
        · skip
          refine j_iload hx d_Nights_lightFlashes_68 1 rfl ?_
          refine j_iload hx d_Nights_lightFlashes_70 0 rfl ?_
          refine j_iload_n hx d_Nights_lightFlashes_72 rfl 4 rfl ?_
          refine j_iload_n hx d_Nights_lightFlashes_73 rfl 5 rfl ?_
          refine j_iload hx d_Nights_lightFlashes_74 6 rfl ?_
          refine j_callNi hx (c_DL_isSeen hG σ (rg (σ (9 + 1)) 6 (nI i)) (rg (σ (11 + 1)) 6 (nI i)) c m r) mo_DL_isSeen t_458 t_457 (by decide) rfl rfl (Nat.le_of_ble_eq_true rfl) d_Nights_lightFlashes_76 ?_
          refine j_if_eq (tgt := 86) hx d_Nights_lightFlashes_79 (by decide) (fun zc79 => ?_) (fun zc79 => ?_)
          · skip
            refine j_iconst (v := 0) hx d_Nights_lightFlashes_86 (by decide) ?_
            refine j_iadd hx d_Nights_lightFlashes_87 ?_
            refine j_istore hx [(7, .int ((sm (fun l => b2 (lfP σ o c m r l)) i) + 0)), (10, .int (rg (σ (11 + 1)) 6 (nI i))), (9, .int (rg (σ (9 + 1)) 6 (nI i))), (0, .ref (G.1 (o))), (1, .ref (G.1 4)), (2, .int c), (3, .int m), (4, .int r), (5, .int (rg (σ ((o + 1) + 1)) 29 6)), (6, .int (rg (σ (5 + 1)) 6 1)), (8, .int (nI i))] d_Nights_lightFlashes_88 (by decide) rfl ?_
            refine j_iinc hx [(8, .int ((nI i) + 1)), (7, .int ((sm (fun l => b2 (lfP σ o c m r l)) i) + 0)), (10, .int (rg (σ (11 + 1)) 6 (nI i))), (9, .int (rg (σ (9 + 1)) 6 (nI i))), (0, .ref (G.1 (o))), (1, .ref (G.1 4)), (2, .int c), (3, .int m), (4, .int r), (5, .int (rg (σ ((o + 1) + 1)) 29 6)), (6, .int (rg (σ (5 + 1)) 6 1))] d_Nights_lightFlashes_90 10 rfl rfl (by decide) rfl ?_
            refine j_goto (tgt := 27) hx d_Nights_lightFlashes_93 (by decide) ?_
            refine J.lsub (ls' := [(0, .ref (G.1 (o))), (1, .ref (G.1 4)), (2, .int c), (3, .int m), (4, .int r), (5, .int (rg (σ ((o + 1) + 1)) 29 6)), (6, .int (rg (σ (5 + 1)) 6 1)), (7, .int ((sm (fun l => b2 (lfP σ o c m r l)) i) + 0)), (8, .int ((nI i) + 1))]) [4, 5, 6, 7, 8, 9, 10, 1, 0] rfl ?_
            refine J.to ?_ ?_ (ih27 _ ?_ (i + 1) hlt27 rfl)
            · first | (first | rfl | (simp [zc31, zc65, zc79]; done)) | fail
            · first | (simp only [nI_s, sm_s]; first | rw [b2_t (p := lfP σ o c m r i) ⟨b2_nz zc65, b2_nz zc79⟩] | rw [b2_f (p := lfP σ o c m r i) (fun z => b2_z zc79 z.2)] | rw [b2_f (p := lfP σ o c m r i) (fun z => b2_z zc65 z.1)]) | fail
            · first | (omega) | fail
          · skip
            refine j_iconst (v := 1) hx d_Nights_lightFlashes_82 (by decide) ?_
            refine j_goto (tgt := 87) hx d_Nights_lightFlashes_83 (by decide) ?_
            refine j_iadd hx d_Nights_lightFlashes_87 ?_
            refine j_istore hx [(7, .int ((sm (fun l => b2 (lfP σ o c m r l)) i) + 1)), (10, .int (rg (σ (11 + 1)) 6 (nI i))), (9, .int (rg (σ (9 + 1)) 6 (nI i))), (0, .ref (G.1 (o))), (1, .ref (G.1 4)), (2, .int c), (3, .int m), (4, .int r), (5, .int (rg (σ ((o + 1) + 1)) 29 6)), (6, .int (rg (σ (5 + 1)) 6 1)), (8, .int (nI i))] d_Nights_lightFlashes_88 (by decide) rfl ?_
            refine j_iinc hx [(8, .int ((nI i) + 1)), (7, .int ((sm (fun l => b2 (lfP σ o c m r l)) i) + 1)), (10, .int (rg (σ (11 + 1)) 6 (nI i))), (9, .int (rg (σ (9 + 1)) 6 (nI i))), (0, .ref (G.1 (o))), (1, .ref (G.1 4)), (2, .int c), (3, .int m), (4, .int r), (5, .int (rg (σ ((o + 1) + 1)) 29 6)), (6, .int (rg (σ (5 + 1)) 6 1))] d_Nights_lightFlashes_90 10 rfl rfl (by decide) rfl ?_
            refine j_goto (tgt := 27) hx d_Nights_lightFlashes_93 (by decide) ?_
            refine J.lsub (ls' := [(0, .ref (G.1 (o))), (1, .ref (G.1 4)), (2, .int c), (3, .int m), (4, .int r), (5, .int (rg (σ ((o + 1) + 1)) 29 6)), (6, .int (rg (σ (5 + 1)) 6 1)), (7, .int ((sm (fun l => b2 (lfP σ o c m r l)) i) + 1)), (8, .int ((nI i) + 1))]) [4, 5, 6, 7, 8, 9, 10, 1, 0] rfl ?_
            refine J.to ?_ ?_ (ih27 _ ?_ (i + 1) hlt27 rfl)
            · first | (first | rfl | (simp [zc31, zc65, zc79]; done)) | fail
            · first | (simp only [nI_s, sm_s]; first | rw [b2_t (p := lfP σ o c m r i) ⟨b2_nz zc65, b2_nz zc79⟩] | rw [b2_f (p := lfP σ o c m r i) (fun z => b2_z zc79 z.2)] | rw [b2_f (p := lfP σ o c m r i) (fun z => b2_z zc65 z.1)]) | fail
            · first | (omega) | fail
  refine J.lsub (ls' := [(0, .ref (G.1 (o))), (1, .ref (G.1 4)), (2, .int c), (3, .int m), (4, .int r), (5, .int (rg (σ ((o + 1) + 1)) 29 6)), (6, .int (rg (σ (5 + 1)) 6 1)), (7, .int 0), (8, .int 0)]) [4, 5, 6, 7, 8, 3, 2, 1, 0] rfl ?_
  refine J.to ?_ ?_ (hl27 _ 0 (Nat.zero_le _) rfl)
  · first | (first | rfl | (simp []; done)) | fail
  · first | (first | rfl | (simp only [nI_s]; done) | (simp only [nI_s, it_s]; done) | (simp [nI_s, it_s, ]; done)) | fail

set_option maxRecDepth 20000 in
set_option maxHeartbeats 4000000 in
theorem c_Nights_donkeyFlashes {l : Launch} {G : Gz} (hG : zI G) {o : Nat} (ho_o : isNights o) (σ : St) (c : Int32) (m : Int32) (r : Int32) : MI l G y_Nights_donkeyFlashes prog_6_method_16_code 11 .int 3 [.ref (G.1 (o)), .ref (G.1 4), .int c, .int m, .int r] σ (dfl σ o c m r) σ := by
  refine MI.of hG (by decide) (Nat.le_of_ble_eq_true rfl) (fun X hx hq => ?_)
  show J l G X 11 σ 0 [(0, .ref (G.1 (o))), (1, .ref (G.1 4)), (2, .int c), (3, .int m), (4, .int r)] []
  refine j_aload_n hx d_Nights_donkeyFlashes_0 rfl 1 rfl ?_
  refine j_get hx ck_Coast 0 (by decide) t_83 (by decide) (sh_4 _ _) rfl d_Nights_donkeyFlashes_1 ?_
  refine j_iconst (v := 0) hx d_Nights_donkeyFlashes_4 (by decide) ?_
  refine j_callVi hx (c_Row_getA hG ir_5 6 rfl σ 0) mo_Row_get mv_Row_get t_436 (by decide) rfl (by decide) (sh_5 _ _) rfl rfl (Nat.le_of_ble_eq_true rfl) d_Nights_donkeyFlashes_5 ?_
  refine j_iconst (v := 1) hx d_Nights_donkeyFlashes_8 (by decide) ?_
  refine j_isub hx d_Nights_donkeyFlashes_9 ?_
  refine j_istore hx [(5, .int ((rg (σ (5 + 1)) 6 0) - 1)), (0, .ref (G.1 (o))), (1, .ref (G.1 4)), (2, .int c), (3, .int m), (4, .int r)] d_Nights_donkeyFlashes_10 (by decide) rfl ?_
  refine j_aload_n hx d_Nights_donkeyFlashes_12 rfl 2 rfl ?_
  refine j_get hx ck_Coast 0 (by decide) t_83 (by decide) (sh_4 _ _) rfl d_Nights_donkeyFlashes_13 ?_
  refine j_iconst (v := 2) hx d_Nights_donkeyFlashes_16 (by decide) ?_
  refine j_callVi hx (c_Row_getA hG ir_5 6 rfl σ 2) mo_Row_get mv_Row_get t_436 (by decide) rfl (by decide) (sh_5 _ _) rfl rfl (Nat.le_of_ble_eq_true rfl) d_Nights_donkeyFlashes_17 ?_
  refine j_istore hx [(6, .int (rg (σ (5 + 1)) 6 2)), (5, .int ((rg (σ (5 + 1)) 6 0) - 1)), (0, .ref (G.1 (o))), (1, .ref (G.1 4)), (2, .int c), (3, .int m), (4, .int r)] d_Nights_donkeyFlashes_20 (by decide) rfl ?_
  refine j_iconst (v := 0) hx d_Nights_donkeyFlashes_22 (by decide) ?_
  refine j_istore hx [(7, .int 0), (6, .int (rg (σ (5 + 1)) 6 2)), (5, .int ((rg (σ (5 + 1)) 6 0) - 1)), (0, .ref (G.1 (o))), (1, .ref (G.1 4)), (2, .int c), (3, .int m), (4, .int r)] d_Nights_donkeyFlashes_23 (by decide) rfl ?_
  refine j_iconst (v := 0) hx d_Nights_donkeyFlashes_25 (by decide) ?_
  refine j_istore hx [(8, .int 0), (7, .int 0), (6, .int (rg (σ (5 + 1)) 6 2)), (5, .int ((rg (σ (5 + 1)) 6 0) - 1)), (0, .ref (G.1 (o))), (1, .ref (G.1 4)), (2, .int c), (3, .int m), (4, .int r)] d_Nights_donkeyFlashes_26 (by decide) rfl ?_
  have hl28 : ∀ (N9 : Nat) (i : Nat), (i ≤ (ct (cM σ 2))) → (ct (cM σ 2)) - i = N9 → J l G X 11 σ 28 [(0, .ref (G.1 (o))), (1, .ref (G.1 4)), (2, .int c), (3, .int m), (4, .int r), (5, .int ((rg (σ (5 + 1)) 6 0) - 1)), (6, .int (rg (σ (5 + 1)) 6 2)), (7, .int (sm (fun d => b2 (dfP σ o c m r d)) i)), (8, .int (nI i))] [] := by
    intro N9
    induction N9 using Nat.strongRecOn with
    | _ N9 ih28 =>
      intro i hi_i hm28
      refine j_iload hx d_Nights_donkeyFlashes_28 8 rfl ?_
      refine j_iload hx d_Nights_donkeyFlashes_30 6 rfl ?_
      refine j_icmp_ge (tgt := 97) hx d_Nights_donkeyFlashes_32 (by decide) (fun zc32 => ?_) (fun zc32 => ?_)
      · skip
        obtain rfl := ct_end' hi_i zc32
        refine j_iload hx d_Nights_donkeyFlashes_97 7 rfl ?_
        exact j_iret hx hq rfl d_Nights_donkeyFlashes_99 (by first | (first | rfl | (simp only [zc32]; done) | (simp [zc32]; done)) | fail) (by first | (first | rfl | (simp only [zc32]; done) | (simp [zc32]; done)) | fail)
      · skip
        have hlt28 := ct_go hi_i zc32
        refine j_aload_n hx d_Nights_donkeyFlashes_35 rfl 0 rfl ?_
        refine j_get hx ck_Nights 0 (by decide) t_228 (by have := ho_o.1; omega) (ho_o.2.1 _ _) rfl d_Nights_donkeyFlashes_36 ?_
        refine j_bipush (v := 8) hx d_Nights_donkeyFlashes_39 (by decide) ?_
        refine j_iload hx d_Nights_donkeyFlashes_41 8 rfl ?_
        refine j_iadd hx d_Nights_donkeyFlashes_43 ?_
        refine j_callVi hx (c_Row_getA hG ho_o.2.2 (o + 2) rfl σ (8 + (nI i))) mo_Row_get mv_Row_get t_436 (by decide) rfl (by have := ho_o.2.2.1; omega) (ho_o.2.2.2.1 _ _) rfl rfl (Nat.le_of_ble_eq_true rfl) d_Nights_donkeyFlashes_44 ?_
        refine j_iload_n hx d_Nights_donkeyFlashes_47 rfl 3 rfl ?_
        refine j_iadd hx d_Nights_donkeyFlashes_48 ?_
        refine j_iload hx d_Nights_donkeyFlashes_49 5 rfl ?_
        refine j_mmin hx t_467 (by decide) (Nat.le_of_ble_eq_true rfl) d_Nights_donkeyFlashes_51 ?_
        refine j_istore hx [(9, .int (if ((rg (σ (5 + 1)) 6 0) - 1) < ((rg (σ ((o + 1) + 1)) 29 (8 + (nI i))) + m) then ((rg (σ (5 + 1)) 6 0) - 1) else ((rg (σ ((o + 1) + 1)) 29 (8 + (nI i))) + m))), (0, .ref (G.1 (o))), (1, .ref (G.1 4)), (2, .int c), (3, .int m), (4, .int r), (5, .int ((rg (σ (5 + 1)) 6 0) - 1)), (6, .int (rg (σ (5 + 1)) 6 2)), (7, .int (sm (fun d => b2 (dfP σ o c m r d)) i)), (8, .int (nI i))] d_Nights_donkeyFlashes_54 (by decide) rfl ?_
        refine j_aload_n hx d_Nights_donkeyFlashes_56 rfl 2 rfl ?_
        refine j_get hx ck_Coast 5 (by decide) t_102 (by decide) (sh_4 _ _) rfl d_Nights_donkeyFlashes_57 ?_
        refine j_iload hx d_Nights_donkeyFlashes_60 9 rfl ?_
        refine j_callVi hx (c_Row_getA hG ir_15 16 rfl σ (nI i)) mo_Row_get mv_Row_get t_436 (by decide) rfl (by decide) (sh_15 _ _) rfl rfl (Nat.le_of_ble_eq_true rfl) d_Nights_donkeyFlashes_62 ?_
        refine j_istore hx [(10, .int (rg (σ (15 + 1)) 3 (nI i))), (9, .int (if ((rg (σ (5 + 1)) 6 0) - 1) < ((rg (σ ((o + 1) + 1)) 29 (8 + (nI i))) + m) then ((rg (σ (5 + 1)) 6 0) - 1) else ((rg (σ ((o + 1) + 1)) 29 (8 + (nI i))) + m))), (0, .ref (G.1 (o))), (1, .ref (G.1 4)), (2, .int c), (3, .int m), (4, .int r), (5, .int ((rg (σ (5 + 1)) 6 0) - 1)), (6, .int (rg (σ (5 + 1)) 6 2)), (7, .int (sm (fun d => b2 (dfP σ o c m r d)) i)), (8, .int (nI i))] d_Nights_donkeyFlashes_65 (by decide) rfl ?_
        refine j_iload hx d_Nights_donkeyFlashes_67 9 rfl ?_
        refine j_iload hx d_Nights_donkeyFlashes_69 1 rfl ?_
        refine j_iload hx d_Nights_donkeyFlashes_71 0 rfl ?_
        refine j_iload_n hx d_Nights_donkeyFlashes_73 rfl 4 rfl ?_
        refine j_iload_n hx d_Nights_donkeyFlashes_74 rfl 5 rfl ?_
        refine j_iload hx d_Nights_donkeyFlashes_75 6 rfl ?_
        refine j_callNi hx (c_DL_isSeen hG σ (if ((rg (σ (5 + 1)) 6 0) - 1) < ((rg (σ ((o + 1) + 1)) 29 (8 + (nI i))) + m) then ((rg (σ (5 + 1)) 6 0) - 1) else ((rg (σ ((o + 1) + 1)) 29 (8 + (nI i))) + m)) (rg (σ (15 + 1)) 3 (nI i)) c m r) mo_DL_isSeen t_458 t_457 (by decide) rfl rfl (Nat.le_of_ble_eq_true rfl) d_Nights_donkeyFlashes_77 ?_
        refine j_if_eq (tgt := 87) hx d_Nights_donkeyFlashes_80 (by decide) (fun zc80 => ?_) (fun zc80 => ?_)
        · skip
          refine j_iconst (v := 0) hx d_Nights_donkeyFlashes_87 (by decide) ?_
          refine j_iadd hx d_Nights_donkeyFlashes_88 ?_
          refine j_istore hx [(7, .int ((sm (fun d => b2 (dfP σ o c m r d)) i) + 0)), (10, .int (rg (σ (15 + 1)) 3 (nI i))), (9, .int (if ((rg (σ (5 + 1)) 6 0) - 1) < ((rg (σ ((o + 1) + 1)) 29 (8 + (nI i))) + m) then ((rg (σ (5 + 1)) 6 0) - 1) else ((rg (σ ((o + 1) + 1)) 29 (8 + (nI i))) + m))), (0, .ref (G.1 (o))), (1, .ref (G.1 4)), (2, .int c), (3, .int m), (4, .int r), (5, .int ((rg (σ (5 + 1)) 6 0) - 1)), (6, .int (rg (σ (5 + 1)) 6 2)), (8, .int (nI i))] d_Nights_donkeyFlashes_89 (by decide) rfl ?_
          refine j_iinc hx [(8, .int ((nI i) + 1)), (7, .int ((sm (fun d => b2 (dfP σ o c m r d)) i) + 0)), (10, .int (rg (σ (15 + 1)) 3 (nI i))), (9, .int (if ((rg (σ (5 + 1)) 6 0) - 1) < ((rg (σ ((o + 1) + 1)) 29 (8 + (nI i))) + m) then ((rg (σ (5 + 1)) 6 0) - 1) else ((rg (σ ((o + 1) + 1)) 29 (8 + (nI i))) + m))), (0, .ref (G.1 (o))), (1, .ref (G.1 4)), (2, .int c), (3, .int m), (4, .int r), (5, .int ((rg (σ (5 + 1)) 6 0) - 1)), (6, .int (rg (σ (5 + 1)) 6 2))] d_Nights_donkeyFlashes_91 10 rfl rfl (by decide) rfl ?_
          refine j_goto (tgt := 28) hx d_Nights_donkeyFlashes_94 (by decide) ?_
          refine J.lsub (ls' := [(0, .ref (G.1 (o))), (1, .ref (G.1 4)), (2, .int c), (3, .int m), (4, .int r), (5, .int ((rg (σ (5 + 1)) 6 0) - 1)), (6, .int (rg (σ (5 + 1)) 6 2)), (7, .int ((sm (fun d => b2 (dfP σ o c m r d)) i) + 0)), (8, .int ((nI i) + 1))]) [4, 5, 6, 7, 8, 9, 10, 1, 0] rfl ?_
          refine J.to ?_ ?_ (ih28 _ ?_ (i + 1) hlt28 rfl)
          · first | (first | rfl | (simp [zc32, zc80]; done)) | fail
          · first | (simp only [nI_s, sm_s]; first | rw [b2_t (p := dfP σ o c m r i) (b2_nz zc80)] | rw [b2_f (p := dfP σ o c m r i) (b2_z zc80)]) | fail
          · first | (omega) | fail
        · skip
          refine j_iconst (v := 1) hx d_Nights_donkeyFlashes_83 (by decide) ?_
          refine j_goto (tgt := 88) hx d_Nights_donkeyFlashes_84 (by decide) ?_
          refine j_iadd hx d_Nights_donkeyFlashes_88 ?_
          refine j_istore hx [(7, .int ((sm (fun d => b2 (dfP σ o c m r d)) i) + 1)), (10, .int (rg (σ (15 + 1)) 3 (nI i))), (9, .int (if ((rg (σ (5 + 1)) 6 0) - 1) < ((rg (σ ((o + 1) + 1)) 29 (8 + (nI i))) + m) then ((rg (σ (5 + 1)) 6 0) - 1) else ((rg (σ ((o + 1) + 1)) 29 (8 + (nI i))) + m))), (0, .ref (G.1 (o))), (1, .ref (G.1 4)), (2, .int c), (3, .int m), (4, .int r), (5, .int ((rg (σ (5 + 1)) 6 0) - 1)), (6, .int (rg (σ (5 + 1)) 6 2)), (8, .int (nI i))] d_Nights_donkeyFlashes_89 (by decide) rfl ?_
          refine j_iinc hx [(8, .int ((nI i) + 1)), (7, .int ((sm (fun d => b2 (dfP σ o c m r d)) i) + 1)), (10, .int (rg (σ (15 + 1)) 3 (nI i))), (9, .int (if ((rg (σ (5 + 1)) 6 0) - 1) < ((rg (σ ((o + 1) + 1)) 29 (8 + (nI i))) + m) then ((rg (σ (5 + 1)) 6 0) - 1) else ((rg (σ ((o + 1) + 1)) 29 (8 + (nI i))) + m))), (0, .ref (G.1 (o))), (1, .ref (G.1 4)), (2, .int c), (3, .int m), (4, .int r), (5, .int ((rg (σ (5 + 1)) 6 0) - 1)), (6, .int (rg (σ (5 + 1)) 6 2))] d_Nights_donkeyFlashes_91 10 rfl rfl (by decide) rfl ?_
          refine j_goto (tgt := 28) hx d_Nights_donkeyFlashes_94 (by decide) ?_
          refine J.lsub (ls' := [(0, .ref (G.1 (o))), (1, .ref (G.1 4)), (2, .int c), (3, .int m), (4, .int r), (5, .int ((rg (σ (5 + 1)) 6 0) - 1)), (6, .int (rg (σ (5 + 1)) 6 2)), (7, .int ((sm (fun d => b2 (dfP σ o c m r d)) i) + 1)), (8, .int ((nI i) + 1))]) [4, 5, 6, 7, 8, 9, 10, 1, 0] rfl ?_
          refine J.to ?_ ?_ (ih28 _ ?_ (i + 1) hlt28 rfl)
          · first | (first | rfl | (simp [zc32, zc80]; done)) | fail
          · first | (simp only [nI_s, sm_s]; first | rw [b2_t (p := dfP σ o c m r i) (b2_nz zc80)] | rw [b2_f (p := dfP σ o c m r i) (b2_z zc80)]) | fail
          · first | (omega) | fail
  refine J.lsub (ls' := [(0, .ref (G.1 (o))), (1, .ref (G.1 4)), (2, .int c), (3, .int m), (4, .int r), (5, .int ((rg (σ (5 + 1)) 6 0) - 1)), (6, .int (rg (σ (5 + 1)) 6 2)), (7, .int 0), (8, .int 0)]) [4, 5, 6, 7, 8, 3, 2, 1, 0] rfl ?_
  refine J.to ?_ ?_ (hl28 _ 0 (Nat.zero_le _) rfl)
  · first | (first | rfl | (simp []; done)) | fail
  · first | (first | rfl | (simp only [nI_s]; done) | (simp only [nI_s, it_s]; done) | (simp [nI_s, it_s, ]; done)) | fail

set_option maxRecDepth 20000 in
set_option maxHeartbeats 4000000 in
theorem c_Nights_reset {l : Launch} {G : Gz} (hG : zI G) (σ : St) : MV l G y_Nights_reset prog_6_method_2_code 3 3 [.ref (G.1 81), .ref (G.1 4)] σ (nrs σ (ct (cM σ 2))) := by
  refine MV.of hG (by decide) (Nat.le_of_ble_eq_true rfl) (fun X hx hq => ?_)
  show J l G X 3 σ 0 [(0, .ref (G.1 81)), (1, .ref (G.1 4))] []
  refine j_aload_n hx d_Nights_reset_0 rfl 0 rfl ?_
  refine j_get hx ck_Nights 0 (by decide) t_228 (by decide) (sh_81 _ _) rfl d_Nights_reset_1 ?_
  refine j_callVv hx (c_Row_clear hG ir_82 σ) mo_Row_clear mv_Row_clear t_782 (by decide) rfl (by decide) (sh_82 _ _) rfl rfl (Nat.le_of_ble_eq_true rfl) d_Nights_reset_4 ?_
  refine j_aload_n hx d_Nights_reset_7 rfl 0 rfl ?_
  refine j_get hx ck_Nights 0 (by decide) t_228 (by decide) (sh_81 _ _) rfl d_Nights_reset_8 ?_
  refine j_bipush (v := 6) hx d_Nights_reset_11 (by decide) ?_
  refine j_iconst (v := 1) hx d_Nights_reset_13 (by decide) ?_
  refine j_aload_n hx d_Nights_reset_14 rfl 1 rfl ?_
  refine j_get hx ck_Coast 0 (by decide) t_83 (by decide) (sh_4 _ _) rfl d_Nights_reset_15 ?_
  refine j_iconst (v := 1) hx d_Nights_reset_18 (by decide) ?_
  refine j_callVi hx (c_Row_getA hG ir_5 6 rfl (fl σ (82 + 1) 29 (fun _ => 0)) 1) mo_Row_get mv_Row_get t_436 (by decide) rfl (by decide) (sh_5 _ _) rfl rfl (Nat.le_of_ble_eq_true rfl) d_Nights_reset_19 ?_
  refine j_ishl hx d_Nights_reset_22 ?_
  refine j_iconst (v := 1) hx d_Nights_reset_23 (by decide) ?_
  refine j_isub hx d_Nights_reset_24 ?_
  refine j_callVv hx (c_Row_set hG ir_82 (fl σ (82 + 1) 29 (fun _ => 0)) 6 ((1 <<< ((rg ((fl σ (82 + 1) 29 (fun _ => 0)) (5 + 1)) 6 1) &&& 31)) - 1)) mo_Row_set mv_Row_set t_783 (by decide) rfl (by decide) (sh_82 _ _) rfl rfl (Nat.le_of_ble_eq_true rfl) d_Nights_reset_25 ?_
  refine j_iconst (v := 0) hx d_Nights_reset_28 (by decide) ?_
  refine j_istore_n hx [(2, .int 0), (0, .ref (G.1 81)), (1, .ref (G.1 4))] d_Nights_reset_29 rfl (by decide) rfl ?_
  have hl30 : ∀ (N9 : Nat) (i : Nat), (i ≤ (ct (cM σ 2))) → (ct (cM σ 2)) - i = N9 → J l G X 3 (nrs σ i) 30 [(0, .ref (G.1 81)), (1, .ref (G.1 4)), (2, .int (nI i))] [] := by
    intro N9
    induction N9 using Nat.strongRecOn with
    | _ N9 ih30 =>
      intro i hi_i hm30
      refine j_iload_n hx d_Nights_reset_30 rfl 2 rfl ?_
      refine j_aload_n hx d_Nights_reset_31 rfl 1 rfl ?_
      refine j_get hx ck_Coast 0 (by decide) t_83 (by decide) (sh_4 _ _) rfl d_Nights_reset_32 ?_
      refine j_iconst (v := 2) hx d_Nights_reset_35 (by decide) ?_
      refine j_callVi hx (c_Row_getA hG ir_5 6 rfl (nrs σ i) 2) mo_Row_get mv_Row_get t_436 (by decide) rfl (by decide) (sh_5 _ _) rfl rfl (Nat.le_of_ble_eq_true rfl) d_Nights_reset_36 ?_
      refine j_icmp_ge (tgt := 67) hx d_Nights_reset_39 (by decide) (fun zc39 => ?_) (fun zc39 => ?_)
      · skip
        obtain rfl := ct_end' hi_i (by have q9 := zc39; rw [nrs_o (by decide)] at q9; exact q9)
        exact j_vret hx hq d_Nights_reset_67 (by first | (first | rfl | (simp only [zc39]; done) | (simp [zc39]; done)) | fail)
      · skip
        have hlt30 := ct_go hi_i (by have q9 := zc39; rw [nrs_o (by decide)] at q9; exact q9)
        refine j_aload_n hx d_Nights_reset_42 rfl 0 rfl ?_
        refine j_get hx ck_Nights 0 (by decide) t_228 (by decide) (sh_81 _ _) rfl d_Nights_reset_43 ?_
        refine j_bipush (v := 8) hx d_Nights_reset_46 (by decide) ?_
        refine j_iload_n hx d_Nights_reset_48 rfl 2 rfl ?_
        refine j_iadd hx d_Nights_reset_49 ?_
        refine j_aload_n hx d_Nights_reset_50 rfl 1 rfl ?_
        refine j_get hx ck_Coast 4 (by decide) t_98 (by decide) (sh_4 _ _) rfl d_Nights_reset_51 ?_
        refine j_iload_n hx d_Nights_reset_54 rfl 2 rfl ?_
        refine j_callVi hx (c_Row_getA hG ir_13 14 rfl (nrs σ i) (nI i)) mo_Row_get mv_Row_get t_436 (by decide) rfl (by decide) (sh_13 _ _) rfl rfl (Nat.le_of_ble_eq_true rfl) d_Nights_reset_55 ?_
        refine j_callVv hx (c_Row_set hG ir_82 (nrs σ i) (8 + (nI i)) (rg ((nrs σ i) (13 + 1)) 3 (nI i))) mo_Row_set mv_Row_set t_783 (by decide) rfl (by decide) (sh_82 _ _) rfl rfl (Nat.le_of_ble_eq_true rfl) d_Nights_reset_58 ?_
        refine j_iinc hx [(2, .int ((nI i) + 1)), (0, .ref (G.1 81)), (1, .ref (G.1 4))] d_Nights_reset_61 2 rfl rfl (by decide) rfl ?_
        refine j_goto (tgt := 30) hx d_Nights_reset_64 (by decide) ?_
        refine J.lsub (ls' := [(0, .ref (G.1 81)), (1, .ref (G.1 4)), (2, .int ((nI i) + 1))]) [1, 2, 0] rfl ?_
        refine J.to ?_ ?_ (ih30 _ ?_ (i + 1) hlt30 rfl)
        · first | (rfl) | fail
        · first | (first | rfl | (simp only [nI_s]; done) | (simp only [nI_s, it_s]; done) | (simp [nI_s, it_s, zc39]; done)) | fail
        · first | (omega) | fail
  refine J.lsub (ls' := [(0, .ref (G.1 81)), (1, .ref (G.1 4)), (2, .int 0)]) [1, 2, 0] rfl ?_
  refine J.to ?_ ?_ (hl30 _ 0 (Nat.zero_le _) rfl)
  · first | (rfl) | fail
  · first | (first | rfl | (simp only [nI_s]; done) | (simp only [nI_s, it_s]; done) | (simp [nI_s, it_s, ]; done)) | fail

