/-! ===== a passing (84: seenIn 86, darkIn 88, known 90, steers 92) ===== -/
def rdB (k : Nat) (z : St × Int32) : St × Int32 := if rg (z.1 86) 12 (nI k) ≤ 0 then (rs z.1 87 12 (nI k) (nI k - z.2), z.2) else (rs z.1 87 12 (nI k) (nI k - nI k), nI k)
def rdk (σ : St) (n : Nat) : St × Int32 := it rdB (σ, 0) n
theorem rdk_1 {σ : St} {i : Nat} (h : rg ((rdk σ i).1 86) 12 (nI i) ≤ 0) : rdk σ (i + 1) = (rs (rdk σ i).1 87 12 (nI i) (nI i - (rdk σ i).2), (rdk σ i).2) := by
  show rdB i (rdk σ i) = _; unfold rdB; rw [if_pos h]
theorem rdk_2 {σ : St} {i : Nat} (h : ¬ rg ((rdk σ i).1 86) 12 (nI i) ≤ 0) : rdk σ (i + 1) = (rs (rdk σ i).1 87 12 (nI i) (nI i - nI i), nI i) := by
  show rdB i (rdk σ i) = _; unfold rdB; rw [if_neg h]
def pb0 (σ : St) (o : Nat) : St := tln (fl (fl σ 90 72 (fun _ => 0)) 92 72 (fun _ => 0)) (ng (fl (fl σ 90 72 (fun _ => 0)) 92 72 (fun _ => 0)) o 0) (ng (fl (fl σ 90 72 (fun _ => 0)) 92 72 (fun _ => 0)) o 1)
def pb1 (σ : St) (o : Nat) (r : Int32) (n : Nat) : St := it (fun m s => rs s 85 12 (nI m) (lfl s o (nI m) (nI m) r + dfl s o (nI m) (nI m) r)) σ n
def pbS (σ : St) (o : Nat) : St := (rdk (pb1 (pb0 σ o) o (rch (pb0 σ o) o) (ct (cM (pb0 σ o) 0))) (ct (cM (pb0 σ o) 0))).1
def psV (s : St) (m : Int32) : Int32 := 1 <<< ((if rg (s 86) 12 m ≤ 0 then rg (s 88) 12 m else 11 + rg (s 86) 12 m) &&& 31)
def ps2 (s : St) (ship m w : Int32) : St := tls (rs s 89 72 (ship * 12 + m) (rg (s 90) 72 (ship * 12 + m) ||| w)) ship (rg (s 86) 12 m) (rg ((rs s 89 72 (ship * 12 + m) (rg (s 90) 72 (ship * 12 + m) ||| w)) 88) 12 m) m m
def psT (s : St) (ship m w : Int32) : St := if rg (s 90) 72 (ship * 12 + m) &&& w = 0 then rs (lwS (ps2 s ship m w)) 91 72 (ship * 12 + m) (rg ((ps2 s ship m w) 92) 72 (ship * 12 + m) ||| (if b2 (lwP (ps2 s ship m w)) = 0 then 0 else w)) else s
theorem psT_k {s : St} {ship m w : Int32} (h : ¬ rg (s 90) 72 (ship * 12 + m) &&& w = 0) : s = psT s ship m w := (if_neg h).symm
theorem psT_1 {s : St} {ship m w : Int32} (h : rg (s 90) 72 (ship * 12 + m) &&& w = 0) (h2 : b2 (lwP (ps2 s ship m w)) = 0) : rs (lwS (ps2 s ship m w)) 91 72 (ship * 12 + m) (rg ((ps2 s ship m w) 92) 72 (ship * 12 + m) ||| 0) = psT s ship m w := by
  unfold psT; rw [if_pos h, if_pos h2]
theorem psT_2 {s : St} {ship m w : Int32} (h : rg (s 90) 72 (ship * 12 + m) &&& w = 0) (h2 : ¬ b2 (lwP (ps2 s ship m w)) = 0) : rs (lwS (ps2 s ship m w)) 91 72 (ship * 12 + m) (rg ((ps2 s ship m w) 92) 72 (ship * 12 + m) ||| w) = psT s ship m w := by
  unfold psT; rw [if_pos h, if_neg h2]
theorem tls_o {s : St} {ship a b c d : Int32} {o : Nat} (h : o ≠ 56) : tls s ship a b c d o = s o := by
  unfold tls ts3 ts2 ts1
  rw [rs_o h, rs_o h, rs_o h, rs_o h, rs_o h, rs_o h, rs_o h]
theorem lwS_o {s : St} {o : Nat} (h : o ≠ 58) : lwS s o = s o := lrn_o h
theorem psT_o {s : St} {ship m w : Int32} {o : Nat} (h1 : o ≠ 90) (h2 : o ≠ 92) (h3 : o ≠ 56) (h4 : o ≠ 58) : psT s ship m w o = s o := by
  unfold psT; split
  · rw [rs_o h2, lwS_o h4]; unfold ps2; rw [tls_o h3, rs_o h1]
  · rfl
abbrev psH (s : St) (ship m : Int32) : Prop := rg ((psT s ship m (psV s m)) 92) 72 (ship * 12 + m) &&& psV s m = 0
def psR (ship : Int32) : Nat → Nat → St → Int32 × St
  | 0, _, s => (-1, s)
  | n + 1, m, s => if ¬ stk s ship (nI m) then psR ship n (m + 1) s else if psH s ship (nI m) then psR ship n (m + 1) (psT s ship (nI m) (psV s (nI m))) else (nI m, psT s ship (nI m) (psV s (nI m)))
def psk (σ : St) (ship : Int32) : Int32 × St := psR ship (ct (cM σ 0)) 0 σ
theorem psR_skip {ship : Int32} {N i : Nat} {s : St} (h : i < N) (h1 : ¬ stk s ship (nI i)) : psR ship (N - i) i s = psR ship (N - (i + 1)) (i + 1) s := by
  rw [show N - i = (N - (i + 1)) + 1 by omega, psR, if_pos h1]
theorem psR_miss {ship : Int32} {N i : Nat} {s : St} (h : i < N) (h1 : stk s ship (nI i)) (h2 : psH s ship (nI i)) : psR ship (N - i) i s = psR ship (N - (i + 1)) (i + 1) (psT s ship (nI i) (psV s (nI i))) := by
  rw [show N - i = (N - (i + 1)) + 1 by omega, psR, if_neg (fun z => z h1), if_pos h2]
theorem psR_hit {ship : Int32} {N i : Nat} {s : St} (h : i < N) (h1 : stk s ship (nI i)) (h2 : ¬ psH s ship (nI i)) : psR ship (N - i) i s = (nI i, psT s ship (nI i) (psV s (nI i))) := by
  rw [show N - i = (N - (i + 1)) + 1 by omega, psR, if_neg (fun z => z h1), if_neg h2]
theorem psR_end {ship : Int32} {N : Nat} {s : St} : psR ship (N - N) N s = (-1, s) := by rw [Nat.sub_self, psR]
def lmi (σ : St) (w : Int32) : Int32 := if w = -1 then cM σ 0 - 1 else w
/-- how often a loop to x (x, too) turns -/
def cl (x : Int32) : Nat := (x.toInt + 1).toNat
theorem cl_go {x : Int32} {i : Nat} (hi : i ≤ cl x) (hx : x.toInt < 1000) (h : ¬ x < nI i) : i < cl x := by
  unfold cl at *; rw [i_lt, i_nI (by omega)] at h; omega
theorem cl_end {x : Int32} {i : Nat} (hi : i ≤ cl x) (hx : x.toInt < 1000) (h : x < nI i) : cl x = i := by
  unfold cl at *; rw [i_lt, i_nI (by omega)] at h; omega
def stB (s m : Int32) (ship : Int32) (z : St × Int32) : St × Int32 := z
def sc1 (s : St) (ship : Int32) (k : Nat) : St := tls s ship (rg (s 86) 12 (nI k)) (rg (s 88) 12 (nI k)) (nI k) (nI k)
def scB (ship : Int32) (k : Nat) (z : St × Int32) : St × Int32 := (lwS (sc1 z.1 ship k), z.2 ||| (if b2 (lwP (sc1 z.1 ship k)) = 0 then (0 : Int32) else 1 <<< (nI k &&& 31)))
def scl (σ : St) (ship : Int32) (n : Nat) : St × Int32 := it (scB ship) (σ, 0) n
theorem scl_o {σ : St} {ship : Int32} {n o : Nat} (h3 : o ≠ 56) (h4 : o ≠ 58) : (scl σ ship n).1 o = σ o := by
  induction n with
  | zero => rfl
  | succ n ih => show lwS (sc1 (scl σ ship n).1 ship n) o = _; rw [lwS_o h4]; unfold sc1; rw [tls_o h3, ih]
theorem lmi_6 {s σ : St} {w : Int32} (h : s 6 = σ 6) : lmi s w = lmi σ w := by unfold lmi cM; rw [h]
theorem scl_1 {σ : St} {ship : Int32} {i : Nat} (h : b2 (lwP (sc1 (scl σ ship i).1 ship i)) = 0) : scl σ ship (i + 1) = (lwS (sc1 (scl σ ship i).1 ship i), (scl σ ship i).2 ||| 0) := by
  show scB ship i (scl σ ship i) = _; unfold scB; rw [if_pos h]
theorem scl_2 {σ : St} {ship : Int32} {i : Nat} (h : ¬ b2 (lwP (sc1 (scl σ ship i).1 ship i)) = 0) : scl σ ship (i + 1) = (lwS (sc1 (scl σ ship i).1 ship i), (scl σ ship i).2 ||| (1 <<< (nI i &&& 31))) := by
  show scB ship i (scl σ ship i) = _; unfold scB; rw [if_neg h]
def fbl (σ : St) (n : Nat) : Int32 := (fnd (fun m => if rg (σ 86) 12 (nI m) = 0 then some (nI m) else none) n).getD (-1)

set_option maxRecDepth 20000 in
set_option maxHeartbeats 4000000 in
theorem c_Passing_seenIn {l : Launch} {G : Gz} (hG : zI G) (σ : St) (m : Int32) : MI l G y_Passing_seenIn prog_7_method_3_code 2 .int 2 [.ref (G.1 84), .int m] σ (rg (σ 86) 12 m) σ := by
  refine MI.of hG (by decide) (Nat.le_of_ble_eq_true rfl) (fun X hx hq => ?_)
  show J l G X 2 σ 0 [(0, .ref (G.1 84)), (1, .int m)] []
  refine j_aload_n hx d_Passing_seenIn_0 rfl 0 rfl ?_
  refine j_get hx ck_Passing 0 (by decide) t_242 (by decide) (sh_84 _ _) rfl d_Passing_seenIn_1 ?_
  refine j_iload_n hx d_Passing_seenIn_4 rfl 1 rfl ?_
  refine j_callVi hx (c_Row_getA hG ir_85 86 rfl σ m) mo_Row_get mv_Row_get t_449 (by decide) rfl (by decide) (sh_85 _ _) rfl rfl (Nat.le_of_ble_eq_true rfl) d_Passing_seenIn_5 ?_
  exact j_iret hx hq rfl d_Passing_seenIn_8 (by first | (first | rfl | (simp only []; done) | (simp []; done)) | fail) (by first | (first | rfl | (simp only []; done) | (simp []; done)) | fail)

set_option maxRecDepth 20000 in
set_option maxHeartbeats 4000000 in
theorem c_Passing_setSeen {l : Launch} {G : Gz} (hG : zI G) (σ : St) (m : Int32) (v : Int32) : MV l G y_Passing_setSeen prog_7_method_4_code 3 2 [.ref (G.1 84), .int m, .int v] σ (rs σ 85 12 m v) := by
  refine MV.of hG (by decide) (Nat.le_of_ble_eq_true rfl) (fun X hx hq => ?_)
  show J l G X 3 σ 0 [(0, .ref (G.1 84)), (1, .int m), (2, .int v)] []
  refine j_aload_n hx d_Passing_setSeen_0 rfl 0 rfl ?_
  refine j_get hx ck_Passing 0 (by decide) t_242 (by decide) (sh_84 _ _) rfl d_Passing_setSeen_1 ?_
  refine j_iload_n hx d_Passing_setSeen_4 rfl 1 rfl ?_
  refine j_iload_n hx d_Passing_setSeen_5 rfl 2 rfl ?_
  refine j_callVv hx (c_Row_set hG ir_85 σ m v) mo_Row_set mv_Row_set t_470 (by decide) rfl (by decide) (sh_85 _ _) rfl rfl (Nat.le_of_ble_eq_true rfl) d_Passing_setSeen_6 ?_
  exact j_vret hx hq d_Passing_setSeen_9 (by first | (first | rfl | (simp only []; done) | (simp []; done)) | fail)

set_option maxRecDepth 20000 in
set_option maxHeartbeats 4000000 in
theorem c_Passing_reckonDark {l : Launch} {G : Gz} (hG : zI G) (σ : St) (n : Int32) : MV l G y_Passing_reckonDark prog_7_method_5_code 4 2 [.ref (G.1 84), .int n] σ ((rdk σ (ct n)).1) := by
  refine MV.of hG (by decide) (Nat.le_of_ble_eq_true rfl) (fun X hx hq => ?_)
  show J l G X 4 σ 0 [(0, .ref (G.1 84)), (1, .int n)] []
  refine j_iconst (v := 0) hx d_Passing_reckonDark_0 (by decide) ?_
  refine j_istore_n hx [(2, .int 0), (0, .ref (G.1 84)), (1, .int n)] d_Passing_reckonDark_1 rfl (by decide) rfl ?_
  refine j_iconst (v := 0) hx d_Passing_reckonDark_2 (by decide) ?_
  refine j_istore_n hx [(3, .int 0), (2, .int 0), (0, .ref (G.1 84)), (1, .int n)] d_Passing_reckonDark_3 rfl (by decide) rfl ?_
  have hl4 : ∀ (N9 : Nat) (i : Nat), (i ≤ (ct n)) → (ct n) - i = N9 → J l G X 4 ((rdk σ i).1) 4 [(0, .ref (G.1 84)), (1, .int n), (2, .int ((rdk σ i).2)), (3, .int (nI i))] [] := by
    intro N9
    induction N9 using Nat.strongRecOn with
    | _ N9 ih4 =>
      intro i hi_i hm4
      refine j_iload_n hx d_Passing_reckonDark_4 rfl 3 rfl ?_
      refine j_iload_n hx d_Passing_reckonDark_5 rfl 1 rfl ?_
      refine j_icmp_ge (tgt := 43) hx d_Passing_reckonDark_6 (by decide) (fun zc6 => ?_) (fun zc6 => ?_)
      · skip
        obtain rfl := ct_end' hi_i zc6
        exact j_vret hx hq d_Passing_reckonDark_43 (by first | (first | rfl | (simp only [zc6]; done) | (simp [zc6]; done)) | fail)
      · skip
        have hlt4 := ct_go hi_i zc6
        refine j_aload_n hx d_Passing_reckonDark_9 rfl 0 rfl ?_
        refine j_get hx ck_Passing 0 (by decide) t_242 (by decide) (sh_84 _ _) rfl d_Passing_reckonDark_10 ?_
        refine j_iload_n hx d_Passing_reckonDark_13 rfl 3 rfl ?_
        refine j_callVi hx (c_Row_getA hG ir_85 86 rfl ((rdk σ i).1) (nI i)) mo_Row_get mv_Row_get t_449 (by decide) rfl (by decide) (sh_85 _ _) rfl rfl (Nat.le_of_ble_eq_true rfl) d_Passing_reckonDark_14 ?_
        refine j_if_le (tgt := 24) hx d_Passing_reckonDark_17 (by decide) (fun zc17 => ?_) (fun zc17 => ?_)
        · skip
          refine j_iload_n hx d_Passing_reckonDark_24 rfl 2 rfl ?_
          refine j_istore_n hx [(2, .int ((rdk σ i).2)), (0, .ref (G.1 84)), (1, .int n), (3, .int (nI i))] d_Passing_reckonDark_25 rfl (by decide) rfl ?_
          refine j_aload_n hx d_Passing_reckonDark_26 rfl 1 rfl ?_
          refine j_get hx ck_Passing 1 (by decide) t_243 (by decide) (sh_84 _ _) rfl d_Passing_reckonDark_27 ?_
          refine j_iload_n hx d_Passing_reckonDark_30 rfl 3 rfl ?_
          refine j_iload_n hx d_Passing_reckonDark_31 rfl 3 rfl ?_
          refine j_iload_n hx d_Passing_reckonDark_32 rfl 0 rfl ?_
          refine j_isub hx d_Passing_reckonDark_33 ?_
          refine j_callVv hx (c_Row_set hG ir_87 ((rdk σ i).1) (nI i) ((nI i) - ((rdk σ i).2))) mo_Row_set mv_Row_set t_470 (by decide) rfl (by decide) (sh_87 _ _) rfl rfl (Nat.le_of_ble_eq_true rfl) d_Passing_reckonDark_34 ?_
          refine j_iinc hx [(3, .int ((nI i) + 1)), (2, .int ((rdk σ i).2)), (0, .ref (G.1 84)), (1, .int n)] d_Passing_reckonDark_37 3 rfl rfl (by decide) rfl ?_
          refine j_goto (tgt := 4) hx d_Passing_reckonDark_40 (by decide) ?_
          refine J.lsub (ls' := [(0, .ref (G.1 84)), (1, .int n), (2, .int ((rdk σ i).2)), (3, .int ((nI i) + 1))]) [2, 3, 1, 0] rfl ?_
          refine J.to ?_ ?_ (ih4 _ ?_ (i + 1) hlt4 rfl)
          · first | (first | (rw [rdk_1 zc17]; done) | (rw [rdk_2 zc17]; done)) | fail
          · first | (simp only [nI_s]; first | (rw [rdk_1 zc17]; done) | (rw [rdk_2 zc17]; done)) | fail
          · first | (omega) | fail
        · skip
          refine j_iload_n hx d_Passing_reckonDark_20 rfl 3 rfl ?_
          refine j_goto (tgt := 25) hx d_Passing_reckonDark_21 (by decide) ?_
          refine j_istore_n hx [(2, .int (nI i)), (0, .ref (G.1 84)), (1, .int n), (3, .int (nI i))] d_Passing_reckonDark_25 rfl (by decide) rfl ?_
          refine j_aload_n hx d_Passing_reckonDark_26 rfl 1 rfl ?_
          refine j_get hx ck_Passing 1 (by decide) t_243 (by decide) (sh_84 _ _) rfl d_Passing_reckonDark_27 ?_
          refine j_iload_n hx d_Passing_reckonDark_30 rfl 3 rfl ?_
          refine j_iload_n hx d_Passing_reckonDark_31 rfl 3 rfl ?_
          refine j_iload_n hx d_Passing_reckonDark_32 rfl 0 rfl ?_
          refine j_isub hx d_Passing_reckonDark_33 ?_
          refine j_callVv hx (c_Row_set hG ir_87 ((rdk σ i).1) (nI i) ((nI i) - (nI i))) mo_Row_set mv_Row_set t_470 (by decide) rfl (by decide) (sh_87 _ _) rfl rfl (Nat.le_of_ble_eq_true rfl) d_Passing_reckonDark_34 ?_
          refine j_iinc hx [(3, .int ((nI i) + 1)), (2, .int (nI i)), (0, .ref (G.1 84)), (1, .int n)] d_Passing_reckonDark_37 3 rfl rfl (by decide) rfl ?_
          refine j_goto (tgt := 4) hx d_Passing_reckonDark_40 (by decide) ?_
          refine J.lsub (ls' := [(0, .ref (G.1 84)), (1, .int n), (2, .int (nI i)), (3, .int ((nI i) + 1))]) [2, 3, 1, 0] rfl ?_
          refine J.to ?_ ?_ (ih4 _ ?_ (i + 1) hlt4 rfl)
          · first | (first | (rw [rdk_1 zc17]; done) | (rw [rdk_2 zc17]; done)) | fail
          · first | (simp only [nI_s]; first | (rw [rdk_1 zc17]; done) | (rw [rdk_2 zc17]; done)) | fail
          · first | (omega) | fail
  refine J.lsub (ls' := [(0, .ref (G.1 84)), (1, .int n), (2, .int 0), (3, .int 0)]) [2, 3, 1, 0] rfl ?_
  refine J.to ?_ ?_ (hl4 _ 0 (Nat.zero_le _) rfl)
  · first | (rfl) | fail
  · first | (rfl) | fail

set_option maxRecDepth 20000 in
set_option maxHeartbeats 4000000 in
theorem c_Passing_begin {l : Launch} {G : Gz} (hG : zI G) {o : Nat} (ho_o : isNights o) (σ : St) : MV l G y_Passing_begin prog_7_method_2_code 8 5 [.ref (G.1 84), .ref (G.1 4), .ref (G.1 50), .ref (G.1 (o))] σ (pbS σ o) := by
  refine MV.of hG (by decide) (Nat.le_of_ble_eq_true rfl) (fun X hx hq => ?_)
  show J l G X 8 σ 0 [(0, .ref (G.1 84)), (1, .ref (G.1 4)), (2, .ref (G.1 50)), (3, .ref (G.1 (o)))] []
  refine j_aload_n hx d_Passing_begin_0 rfl 0 rfl ?_
  refine j_get hx ck_Passing 2 (by decide) t_244 (by decide) (sh_84 _ _) rfl d_Passing_begin_1 ?_
  refine j_callVv hx (c_Row_clear hG ir_89 σ) mo_Row_clear mv_Row_clear t_428 (by decide) rfl (by decide) (sh_89 _ _) rfl rfl (Nat.le_of_ble_eq_true rfl) d_Passing_begin_4 ?_
  refine j_aload_n hx d_Passing_begin_7 rfl 0 rfl ?_
  refine j_get hx ck_Passing 3 (by decide) t_245 (by decide) (sh_84 _ _) rfl d_Passing_begin_8 ?_
  refine j_callVv hx (c_Row_clear hG ir_91 (fl σ (89 + 1) 72 (fun _ => 0))) mo_Row_clear mv_Row_clear t_428 (by decide) rfl (by decide) (sh_91 _ _) rfl rfl (Nat.le_of_ble_eq_true rfl) d_Passing_begin_11 ?_
  refine j_aload_n hx d_Passing_begin_14 rfl 2 rfl ?_
  refine j_aload_n hx d_Passing_begin_15 rfl 3 rfl ?_
  refine j_iconst (v := 0) hx d_Passing_begin_16 (by decide) ?_
  refine j_callVi hx (c_Nights_get hG ho_o (fl (fl σ (89 + 1) 72 (fun _ => 0)) (91 + 1) 72 (fun _ => 0)) 0) mo_Nights_get mv_Nights_get t_432 (by decide) rfl (by have := ho_o.1; omega) (ho_o.2.1 _ _) rfl rfl (Nat.le_of_ble_eq_true rfl) d_Passing_begin_17 ?_
  refine j_aload_n hx d_Passing_begin_20 rfl 3 rfl ?_
  refine j_iconst (v := 1) hx d_Passing_begin_21 (by decide) ?_
  refine j_callVi hx (c_Nights_get hG ho_o (fl (fl σ (89 + 1) 72 (fun _ => 0)) (91 + 1) 72 (fun _ => 0)) 1) mo_Nights_get mv_Nights_get t_432 (by decide) rfl (by have := ho_o.1; omega) (ho_o.2.1 _ _) rfl rfl (Nat.le_of_ble_eq_true rfl) d_Passing_begin_22 ?_
  refine j_callVv hx (c_Law_tellNight hG (fl (fl σ (89 + 1) 72 (fun _ => 0)) (91 + 1) 72 (fun _ => 0)) (rg ((fl (fl σ (89 + 1) 72 (fun _ => 0)) (91 + 1) 72 (fun _ => 0)) (o + 2)) 29 0) (rg ((fl (fl σ (89 + 1) 72 (fun _ => 0)) (91 + 1) 72 (fun _ => 0)) (o + 2)) 29 1)) mo_Law_tellNight mv_Law_tellNight t_437 (by decide) rfl (by decide) (sh_50 _ _) rfl rfl (Nat.le_of_ble_eq_true rfl) d_Passing_begin_25 ?_
  obtain ⟨s9_1, eg_1⟩ : ∃ z : St, z = pb0 σ o := ⟨_, rfl⟩
  refine J.to (σ' := s9_1) (by rw [eg_1]; first | done | rfl) rfl ?_
  refine j_aload_n hx d_Passing_begin_28 rfl 3 rfl ?_
  refine j_aload_n hx d_Passing_begin_29 rfl 1 rfl ?_
  refine j_callVi hx (c_Nights_reach hG ho_o s9_1) mo_Nights_reach mv_Nights_reach t_441 (by decide) rfl (by have := ho_o.1; omega) (ho_o.2.1 _ _) rfl rfl (Nat.le_of_ble_eq_true rfl) d_Passing_begin_30 ?_
  refine j_istore hx [(4, .int (rch s9_1 o)), (0, .ref (G.1 84)), (1, .ref (G.1 4)), (2, .ref (G.1 50)), (3, .ref (G.1 (o)))] d_Passing_begin_33 (by decide) rfl ?_
  refine j_aload_n hx d_Passing_begin_35 rfl 2 rfl ?_
  refine j_get hx ck_Coast 0 (by decide) t_84 (by decide) (sh_4 _ _) rfl d_Passing_begin_36 ?_
  refine j_iconst (v := 0) hx d_Passing_begin_39 (by decide) ?_
  refine j_callVi hx (c_Row_getA hG ir_5 6 rfl s9_1 0) mo_Row_get mv_Row_get t_449 (by decide) rfl (by decide) (sh_5 _ _) rfl rfl (Nat.le_of_ble_eq_true rfl) d_Passing_begin_40 ?_
  refine j_istore hx [(5, .int (rg (s9_1 (5 + 1)) 6 0)), (4, .int (rch s9_1 o)), (0, .ref (G.1 84)), (1, .ref (G.1 4)), (2, .ref (G.1 50)), (3, .ref (G.1 (o)))] d_Passing_begin_43 (by decide) rfl ?_
  refine j_iconst (v := 0) hx d_Passing_begin_45 (by decide) ?_
  refine j_istore hx [(6, .int 0), (5, .int (rg (s9_1 (5 + 1)) 6 0)), (4, .int (rch s9_1 o)), (0, .ref (G.1 84)), (1, .ref (G.1 4)), (2, .ref (G.1 50)), (3, .ref (G.1 (o)))] d_Passing_begin_46 (by decide) rfl ?_
  have hl48 : ∀ (N9 : Nat) (i : Nat), (i ≤ (ct (cM s9_1 0))) → (ct (cM s9_1 0)) - i = N9 → J l G X 8 (pb1 s9_1 o (rch s9_1 o) i) 48 [(0, .ref (G.1 84)), (1, .ref (G.1 4)), (2, .ref (G.1 50)), (3, .ref (G.1 (o))), (4, .int (rch s9_1 o)), (5, .int (rg (s9_1 (5 + 1)) 6 0)), (6, .int (nI i))] [] := by
    intro N9
    induction N9 using Nat.strongRecOn with
    | _ N9 ih48 =>
      intro i hi_i hm48
      refine j_iload hx d_Passing_begin_48 6 rfl ?_
      refine j_iload hx d_Passing_begin_50 5 rfl ?_
      refine j_icmp_ge (tgt := 97) hx d_Passing_begin_52 (by decide) (fun zc52 => ?_) (fun zc52 => ?_)
      · skip
        obtain rfl := ct_end' hi_i zc52
        refine j_aload_n hx d_Passing_begin_97 rfl 0 rfl ?_
        refine j_iload hx d_Passing_begin_98 5 rfl ?_
        refine j_callVv hx (c_Passing_reckonDark hG (pb1 s9_1 o (rch s9_1 o) (ct (cM s9_1 0))) (rg (s9_1 (5 + 1)) 6 0)) mo_Passing_reckonDark mv_Passing_reckonDark t_471 (by decide) rfl (by decide) (sh_84 _ _) rfl rfl (Nat.le_of_ble_eq_true rfl) d_Passing_begin_100 ?_
        exact j_vret hx hq d_Passing_begin_103 (by first | (rw [eg_1]; rfl) | fail)
      · skip
        have hlt48 := ct_go hi_i zc52
        refine j_aload_n hx d_Passing_begin_55 rfl 3 rfl ?_
        refine j_aload_n hx d_Passing_begin_56 rfl 1 rfl ?_
        refine j_iload hx d_Passing_begin_57 6 rfl ?_
        refine j_iload hx d_Passing_begin_59 6 rfl ?_
        refine j_iload hx d_Passing_begin_61 4 rfl ?_
        refine j_callVi hx (c_Nights_lightFlashes hG ho_o (pb1 s9_1 o (rch s9_1 o) i) (nI i) (nI i) (rch s9_1 o)) mo_Nights_lightFlashes mv_Nights_lightFlashes t_450 (by decide) rfl (by have := ho_o.1; omega) (ho_o.2.1 _ _) rfl rfl (Nat.le_of_ble_eq_true rfl) d_Passing_begin_63 ?_
        refine j_aload_n hx d_Passing_begin_66 rfl 3 rfl ?_
        refine j_aload_n hx d_Passing_begin_67 rfl 1 rfl ?_
        refine j_iload hx d_Passing_begin_68 6 rfl ?_
        refine j_iload hx d_Passing_begin_70 6 rfl ?_
        refine j_iload hx d_Passing_begin_72 4 rfl ?_
        refine j_callVi hx (c_Nights_donkeyFlashes hG ho_o (pb1 s9_1 o (rch s9_1 o) i) (nI i) (nI i) (rch s9_1 o)) mo_Nights_donkeyFlashes mv_Nights_donkeyFlashes t_463 (by decide) rfl (by have := ho_o.1; omega) (ho_o.2.1 _ _) rfl rfl (Nat.le_of_ble_eq_true rfl) d_Passing_begin_74 ?_
        refine j_iadd hx d_Passing_begin_77 ?_
        refine j_istore hx [(7, .int ((lfl (pb1 s9_1 o (rch s9_1 o) i) o (nI i) (nI i) (rch s9_1 o)) + (dfl (pb1 s9_1 o (rch s9_1 o) i) o (nI i) (nI i) (rch s9_1 o)))), (0, .ref (G.1 84)), (1, .ref (G.1 4)), (2, .ref (G.1 50)), (3, .ref (G.1 (o))), (4, .int (rch s9_1 o)), (5, .int (rg (s9_1 (5 + 1)) 6 0)), (6, .int (nI i))] d_Passing_begin_78 (by decide) rfl ?_
        refine j_aload_n hx d_Passing_begin_80 rfl 1 rfl ?_
        refine j_get hx ck_Passing 0 (by decide) t_242 (by decide) (sh_84 _ _) rfl d_Passing_begin_81 ?_
        refine j_iload hx d_Passing_begin_84 7 rfl ?_
        refine j_iload hx d_Passing_begin_86 0 rfl ?_
        refine j_callVv hx (c_Row_set hG ir_85 (pb1 s9_1 o (rch s9_1 o) i) (nI i) ((lfl (pb1 s9_1 o (rch s9_1 o) i) o (nI i) (nI i) (rch s9_1 o)) + (dfl (pb1 s9_1 o (rch s9_1 o) i) o (nI i) (nI i) (rch s9_1 o)))) mo_Row_set mv_Row_set t_470 (by decide) rfl (by decide) (sh_85 _ _) rfl rfl (Nat.le_of_ble_eq_true rfl) d_Passing_begin_88 ?_
        refine j_iinc hx [(6, .int ((nI i) + 1)), (7, .int ((lfl (pb1 s9_1 o (rch s9_1 o) i) o (nI i) (nI i) (rch s9_1 o)) + (dfl (pb1 s9_1 o (rch s9_1 o) i) o (nI i) (nI i) (rch s9_1 o)))), (0, .ref (G.1 84)), (1, .ref (G.1 4)), (2, .ref (G.1 50)), (3, .ref (G.1 (o))), (4, .int (rch s9_1 o)), (5, .int (rg (s9_1 (5 + 1)) 6 0))] d_Passing_begin_91 7 rfl rfl (by decide) rfl ?_
        refine j_goto (tgt := 48) hx d_Passing_begin_94 (by decide) ?_
        refine J.lsub (ls' := [(0, .ref (G.1 84)), (1, .ref (G.1 4)), (2, .ref (G.1 50)), (3, .ref (G.1 (o))), (4, .int (rch s9_1 o)), (5, .int (rg (s9_1 (5 + 1)) 6 0)), (6, .int ((nI i) + 1))]) [2, 3, 4, 5, 6, 7, 0] rfl ?_
        refine J.to ?_ ?_ (ih48 _ ?_ (i + 1) hlt48 rfl)
        · first | (rfl) | fail
        · first | (first | rfl | (simp only [nI_s]; done) | (simp only [nI_s, it_s]; done) | (simp [nI_s, it_s, zc52]; done)) | fail
        · first | (omega) | fail
  refine J.lsub (ls' := [(0, .ref (G.1 84)), (1, .ref (G.1 4)), (2, .ref (G.1 50)), (3, .ref (G.1 (o))), (4, .int (rch s9_1 o)), (5, .int (rg (s9_1 (5 + 1)) 6 0)), (6, .int 0)]) [3, 4, 5, 6, 2, 1, 0] rfl ?_
  refine J.to ?_ ?_ (hl48 _ 0 (Nat.zero_le _) rfl)
  · first | (rfl) | fail
  · first | (first | rfl | (simp only [nI_s]; done) | (simp only [nI_s, it_s]; done) | (simp [nI_s, it_s, ]; done)) | fail

set_option maxRecDepth 20000 in
set_option maxHeartbeats 4000000 in
theorem c_Passing_lastMinute {l : Launch} {G : Gz} (hG : zI G) (σ : St) (w : Int32) : MI l G y_Passing_lastMinute prog_7_method_11_code 2 .int 2 [.ref (G.1 4), .int w] σ (lmi σ w) σ := by
  refine MI.of hG (by decide) (Nat.le_of_ble_eq_true rfl) (fun X hx hq => ?_)
  show J l G X 2 σ 0 [(0, .ref (G.1 4)), (1, .int w)] []
  refine j_iload_n hx d_Passing_lastMinute_0 rfl 1 rfl ?_
  refine j_iconst (v := (-1)) hx d_Passing_lastMinute_1 (by decide) ?_
  refine j_icmp_ne (tgt := 18) hx d_Passing_lastMinute_2 (by decide) (fun zc2 => ?_) (fun zc2 => ?_)
  · skip
    refine j_iload_n hx d_Passing_lastMinute_18 rfl 1 rfl ?_
    exact j_iret hx hq rfl d_Passing_lastMinute_19 (by first | (first | exact (if_pos zc2).symm | exact (if_neg zc2).symm) | fail) (by first | (first | rfl | (simp only [zc2]; done) | (simp [zc2]; done)) | fail)
  · skip
    refine j_aload_n hx d_Passing_lastMinute_5 rfl 0 rfl ?_
    refine j_get hx ck_Coast 0 (by decide) t_84 (by decide) (sh_4 _ _) rfl d_Passing_lastMinute_6 ?_
    refine j_iconst (v := 0) hx d_Passing_lastMinute_9 (by decide) ?_
    refine j_callVi hx (c_Row_getA hG ir_5 6 rfl σ 0) mo_Row_get mv_Row_get t_449 (by decide) rfl (by decide) (sh_5 _ _) rfl rfl (Nat.le_of_ble_eq_true rfl) d_Passing_lastMinute_10 ?_
    refine j_iconst (v := 1) hx d_Passing_lastMinute_13 (by decide) ?_
    refine j_isub hx d_Passing_lastMinute_14 ?_
    refine j_goto (tgt := 19) hx d_Passing_lastMinute_15 (by decide) ?_
    exact j_iret hx hq rfl d_Passing_lastMinute_19 (by first | (first | exact (if_pos zc2).symm | exact (if_neg zc2).symm) | fail) (by first | (first | rfl | (simp only [zc2]; done) | (simp [zc2]; done)) | fail)

set_option maxRecDepth 20000 in
set_option maxHeartbeats 4000000 in
theorem c_Passing_struckIn {l : Launch} {G : Gz} (hG : zI G) (σ : St) (ship : Int32) : MI l G y_Passing_struckIn prog_7_method_7_code 8 .int 4 [.ref (G.1 84), .ref (G.1 4), .ref (G.1 50), .int ship] σ ((psk σ ship).1) ((psk σ ship).2) := by
  refine MI.of hG (by decide) (Nat.le_of_ble_eq_true rfl) (fun X hx hq => ?_)
  show J l G X 8 σ 0 [(0, .ref (G.1 84)), (1, .ref (G.1 4)), (2, .ref (G.1 50)), (3, .int ship)] []
  refine j_iconst (v := 0) hx d_Passing_struckIn_0 (by decide) ?_
  refine j_istore hx [(4, .int 0), (0, .ref (G.1 84)), (1, .ref (G.1 4)), (2, .ref (G.1 50)), (3, .int ship)] d_Passing_struckIn_1 (by decide) rfl ?_
  have hl3 : ∀ (N9 : Nat) (i : Nat) (s : St), (i ≤ ct (cM σ 0)) → (psR ship (ct (cM σ 0) - i) i s = psk σ ship) → (s 6 = σ 6) → (ct (cM σ 0)) - i = N9 → J l G X 8 s 3 [(0, .ref (G.1 84)), (1, .ref (G.1 4)), (2, .ref (G.1 50)), (3, .int ship), (4, .int (nI i))] [] := by
    intro N9
    induction N9 using Nat.strongRecOn with
    | _ N9 ih3 =>
      intro i s hi_i hr hf hm3
      refine j_iload hx d_Passing_struckIn_3 4 rfl ?_
      refine j_aload_n hx d_Passing_struckIn_5 rfl 1 rfl ?_
      refine j_get hx ck_Coast 0 (by decide) t_84 (by decide) (sh_4 _ _) rfl d_Passing_struckIn_6 ?_
      refine j_iconst (v := 0) hx d_Passing_struckIn_9 (by decide) ?_
      refine j_callVi hx (c_Row_getA hG ir_5 6 rfl s 0) mo_Row_get mv_Row_get t_449 (by decide) rfl (by decide) (sh_5 _ _) rfl rfl (Nat.le_of_ble_eq_true rfl) d_Passing_struckIn_10 ?_
      refine j_icmp_ge (tgt := 188) hx d_Passing_struckIn_13 (by decide) (fun zc13 => ?_) (fun zc13 => ?_)
      · skip
        obtain rfl := ct_end' hi_i (by have q9 := zc13; rw [hf] at q9; exact q9)
        refine j_iconst (v := (-1)) hx d_Passing_struckIn_188 (by decide) ?_
        exact j_iret hx hq rfl d_Passing_struckIn_189 (by first | (rw [← hr, psR_end]) | fail) (by first | (rw [← hr, psR_end]) | fail)
      · skip
        have hlt3 := ct_go hi_i (by have q9 := zc13; rw [hf] at q9; exact q9)
        refine j_aload_n hx d_Passing_struckIn_16 rfl 1 rfl ?_
        refine j_iload_n hx d_Passing_struckIn_17 rfl 3 rfl ?_
        refine j_iload hx d_Passing_struckIn_18 4 rfl ?_
        refine j_callVi hx (c_Coast_strikes hG s ship (nI i)) mo_Coast_strikes mv_Coast_strikes t_480 (by decide) rfl (by decide) (sh_4 _ _) rfl rfl (Nat.le_of_ble_eq_true rfl) d_Passing_struckIn_20 ?_
        refine j_if_ne (tgt := 29) hx d_Passing_struckIn_23 (by decide) (fun zc23 => ?_) (fun zc23 => ?_)
        · skip
          refine j_iload_n hx d_Passing_struckIn_29 rfl 3 rfl ?_
          refine j_bipush (v := 12) hx d_Passing_struckIn_30 (by decide) ?_
          refine j_imul hx d_Passing_struckIn_32 ?_
          refine j_iload hx d_Passing_struckIn_33 4 rfl ?_
          refine j_iadd hx d_Passing_struckIn_35 ?_
          refine j_istore hx [(5, .int ((ship * 12) + (nI i))), (0, .ref (G.1 84)), (1, .ref (G.1 4)), (2, .ref (G.1 50)), (3, .int ship), (4, .int (nI i))] d_Passing_struckIn_36 (by decide) rfl ?_
          refine j_aload_n hx d_Passing_struckIn_38 rfl 1 rfl ?_
          refine j_get hx ck_Passing 0 (by decide) t_242 (by decide) (sh_84 _ _) rfl d_Passing_struckIn_39 ?_
          refine j_iload hx d_Passing_struckIn_42 5 rfl ?_
          refine j_callVi hx (c_Row_getA hG ir_85 86 rfl s (nI i)) mo_Row_get mv_Row_get t_449 (by decide) rfl (by decide) (sh_85 _ _) rfl rfl (Nat.le_of_ble_eq_true rfl) d_Passing_struckIn_44 ?_
          refine j_istore hx [(6, .int (rg (s (85 + 1)) 12 (nI i))), (5, .int ((ship * 12) + (nI i))), (0, .ref (G.1 84)), (1, .ref (G.1 4)), (2, .ref (G.1 50)), (3, .int ship), (4, .int (nI i))] d_Passing_struckIn_47 (by decide) rfl ?_
          refine j_iconst (v := 1) hx d_Passing_struckIn_49 (by decide) ?_
          refine j_iload hx d_Passing_struckIn_50 0 rfl ?_
          refine j_if_le (tgt := 63) hx d_Passing_struckIn_52 (by decide) (fun zc52 => ?_) (fun zc52 => ?_)
          · skip
            refine j_aload_n hx d_Passing_struckIn_63 rfl 2 rfl ?_
            refine j_get hx ck_Passing 1 (by decide) t_243 (by decide) (sh_84 _ _) rfl d_Passing_struckIn_64 ?_
            refine j_iload hx d_Passing_struckIn_67 6 rfl ?_
            refine j_callVi hx (c_Row_getA hG ir_87 88 rfl s (nI i)) mo_Row_get mv_Row_get t_449 (by decide) rfl (by decide) (sh_87 _ _) rfl rfl (Nat.le_of_ble_eq_true rfl) d_Passing_struckIn_69 ?_
            refine j_ishl hx d_Passing_struckIn_72 ?_
            refine j_istore hx [(7, .int (1 <<< ((rg (s (87 + 1)) 12 (nI i)) &&& 31))), (6, .int (rg (s (85 + 1)) 12 (nI i))), (5, .int ((ship * 12) + (nI i))), (0, .ref (G.1 84)), (1, .ref (G.1 4)), (2, .ref (G.1 50)), (3, .int ship), (4, .int (nI i))] d_Passing_struckIn_73 (by decide) rfl ?_
            obtain ⟨w7, ew7⟩ : ∃ z : Int32, z = psV s (nI i) := ⟨_, rfl⟩
            refine J.to (ls' := [(7, .int w7), (6, .int (rg (s (85 + 1)) 12 (nI i))), (5, .int ((ship * 12) + (nI i))), (0, .ref (G.1 84)), (1, .ref (G.1 4)), (2, .ref (G.1 50)), (3, .int ship), (4, .int (nI i))]) rfl (by rw [ew7]; unfold psV; first | (rw [if_pos zc52]; done) | (rw [if_neg zc52]; done)) ?_
            refine j_aload_n hx d_Passing_struckIn_75 rfl 3 rfl ?_
            refine j_get hx ck_Passing 2 (by decide) t_244 (by decide) (sh_84 _ _) rfl d_Passing_struckIn_76 ?_
            refine j_iload hx d_Passing_struckIn_79 2 rfl ?_
            refine j_callVi hx (c_Row_getA hG ir_89 90 rfl s ((ship * 12) + (nI i))) mo_Row_get mv_Row_get t_449 (by decide) rfl (by decide) (sh_89 _ _) rfl rfl (Nat.le_of_ble_eq_true rfl) d_Passing_struckIn_81 ?_
            refine j_iload hx d_Passing_struckIn_84 0 rfl ?_
            refine j_iand hx d_Passing_struckIn_86 ?_
            refine j_if_ne (tgt := 164) hx d_Passing_struckIn_87 (by decide) (fun zc87 => ?_) (fun zc87 => ?_)
            · skip
              obtain ⟨s9_1, eg_1⟩ : ∃ z : St, z = psT s ship (nI i) w7 := ⟨_, rfl⟩
              refine J.to (σ' := s9_1) (by rw [eg_1]; first | exact psT_k zc87 | exact psT_1 zc87 zc151 | exact psT_2 zc87 zc151) rfl ?_
              refine j_aload_n hx d_Passing_struckIn_164 rfl 3 rfl ?_
              refine j_get hx ck_Passing 3 (by decide) t_245 (by decide) (sh_84 _ _) rfl d_Passing_struckIn_165 ?_
              refine j_iload hx d_Passing_struckIn_168 2 rfl ?_
              refine j_callVi hx (c_Row_getA hG ir_91 92 rfl s9_1 ((ship * 12) + (nI i))) mo_Row_get mv_Row_get t_449 (by decide) rfl (by decide) (sh_91 _ _) rfl rfl (Nat.le_of_ble_eq_true rfl) d_Passing_struckIn_170 ?_
              refine j_iload hx d_Passing_struckIn_173 0 rfl ?_
              refine j_iand hx d_Passing_struckIn_175 ?_
              refine j_if_eq (tgt := 182) hx d_Passing_struckIn_176 (by decide) (fun zc176 => ?_) (fun zc176 => ?_)
              · skip
                refine j_iinc hx [(4, .int ((nI i) + 1)), (7, .int w7), (6, .int (rg (s (85 + 1)) 12 (nI i))), (5, .int ((ship * 12) + (nI i))), (0, .ref (G.1 84)), (1, .ref (G.1 4)), (2, .ref (G.1 50)), (3, .int ship)] d_Passing_struckIn_182 7 rfl rfl (by decide) rfl ?_
                refine j_goto (tgt := 3) hx d_Passing_struckIn_185 (by decide) ?_
                refine J.lsub (ls' := [(0, .ref (G.1 84)), (1, .ref (G.1 4)), (2, .ref (G.1 50)), (3, .int ship), (4, .int ((nI i) + 1))]) [4, 5, 6, 7, 0] rfl ?_
                refine J.to ?_ ?_ (ih3 _ ?_ (i + 1) s9_1 hlt3 (by first | exact (psR_skip hlt3 (b2_z zc23)).symm.trans hr | (rw [eg_1]; rw [ew7] at eg_1 zc176 ⊢; rw [eg_1] at zc176; exact (psR_miss hlt3 (b2_nz zc23) zc176).symm.trans hr)) (by first | exact hf | (rw [eg_1, psT_o (by decide) (by decide) (by decide) (by decide)]; exact hf)) rfl)
                · first | (rfl) | fail
                · first | (simp only [nI_s]) | fail
                · first | (omega) | fail
              · skip
                refine j_iload hx d_Passing_struckIn_179 7 rfl ?_
                exact j_iret hx hq rfl d_Passing_struckIn_181 (by first | (rw [ew7] at eg_1 zc176; rw [eg_1] at zc176; rw [← hr, psR_hit hlt3 (b2_nz zc23) zc176]) | fail) (by first | (rw [ew7] at eg_1 zc176; rw [eg_1] at zc176 ⊢; rw [← hr, psR_hit hlt3 (b2_nz zc23) zc176]) | fail)
            · skip
              refine j_aload_n hx d_Passing_struckIn_90 rfl 3 rfl ?_
              refine j_get hx ck_Passing 2 (by decide) t_244 (by decide) (sh_84 _ _) rfl d_Passing_struckIn_91 ?_
              refine j_iload hx d_Passing_struckIn_94 2 rfl ?_
              refine j_aload_n hx d_Passing_struckIn_96 rfl 3 rfl ?_
              refine j_get hx ck_Passing 2 (by decide) t_244 (by decide) (sh_84 _ _) rfl d_Passing_struckIn_97 ?_
              refine j_iload hx d_Passing_struckIn_100 2 rfl ?_
              refine j_callVi hx (c_Row_getA hG ir_89 90 rfl s ((ship * 12) + (nI i))) mo_Row_get mv_Row_get t_449 (by decide) rfl (by decide) (sh_89 _ _) rfl rfl (Nat.le_of_ble_eq_true rfl) d_Passing_struckIn_102 ?_
              refine j_iload hx d_Passing_struckIn_105 0 rfl ?_
              refine j_ior hx d_Passing_struckIn_107 ?_
              refine j_callVv hx (c_Row_set hG ir_89 s ((ship * 12) + (nI i)) ((rg (s (89 + 1)) 72 ((ship * 12) + (nI i))) ||| w7)) mo_Row_set mv_Row_set t_470 (by decide) rfl (by decide) (sh_89 _ _) rfl rfl (Nat.le_of_ble_eq_true rfl) d_Passing_struckIn_108 ?_
              refine j_aload_n hx d_Passing_struckIn_111 rfl 5 rfl ?_
              refine j_aload_n hx d_Passing_struckIn_112 rfl 4 rfl ?_
              refine j_iload_n hx d_Passing_struckIn_113 rfl 6 rfl ?_
              refine j_iload hx d_Passing_struckIn_114 1 rfl ?_
              refine j_aload_n hx d_Passing_struckIn_116 rfl 3 rfl ?_
              refine j_get hx ck_Passing 1 (by decide) t_243 (by decide) (sh_84 _ _) rfl d_Passing_struckIn_117 ?_
              refine j_iload hx d_Passing_struckIn_120 7 rfl ?_
              refine j_callVi hx (c_Row_getA hG ir_87 88 rfl (rs s 89 72 ((ship * 12) + (nI i)) ((rg (s (89 + 1)) 72 ((ship * 12) + (nI i))) ||| w7)) (nI i)) mo_Row_get mv_Row_get t_449 (by decide) rfl (by decide) (sh_87 _ _) rfl rfl (Nat.le_of_ble_eq_true rfl) d_Passing_struckIn_122 ?_
              refine j_iload hx d_Passing_struckIn_125 7 rfl ?_
              refine j_iload hx d_Passing_struckIn_127 7 rfl ?_
              refine j_callVv hx (c_Law_tellShip hG (rs s 89 72 ((ship * 12) + (nI i)) ((rg (s (89 + 1)) 72 ((ship * 12) + (nI i))) ||| w7)) ship (rg (s (85 + 1)) 12 (nI i)) (rg ((rs s 89 72 ((ship * 12) + (nI i)) ((rg (s (89 + 1)) 72 ((ship * 12) + (nI i))) ||| w7)) (87 + 1)) 12 (nI i)) (nI i) (nI i)) mo_Law_tellShip mv_Law_tellShip t_485 (by decide) rfl (by decide) (sh_50 _ _) rfl rfl (Nat.le_of_ble_eq_true rfl) d_Passing_struckIn_129 ?_
              refine j_aload_n hx d_Passing_struckIn_132 rfl 3 rfl ?_
              refine j_get hx ck_Passing 3 (by decide) t_245 (by decide) (sh_84 _ _) rfl d_Passing_struckIn_133 ?_
              refine j_iload hx d_Passing_struckIn_136 2 rfl ?_
              refine j_aload_n hx d_Passing_struckIn_138 rfl 3 rfl ?_
              refine j_get hx ck_Passing 3 (by decide) t_245 (by decide) (sh_84 _ _) rfl d_Passing_struckIn_139 ?_
              refine j_iload hx d_Passing_struckIn_142 2 rfl ?_
              refine j_callVi hx (c_Row_getA hG ir_91 92 rfl (tls (rs s 89 72 ((ship * 12) + (nI i)) ((rg (s (89 + 1)) 72 ((ship * 12) + (nI i))) ||| w7)) ship (rg (s (85 + 1)) 12 (nI i)) (rg ((rs s 89 72 ((ship * 12) + (nI i)) ((rg (s (89 + 1)) 72 ((ship * 12) + (nI i))) ||| w7)) (87 + 1)) 12 (nI i)) (nI i) (nI i)) ((ship * 12) + (nI i))) mo_Row_get mv_Row_get t_449 (by decide) rfl (by decide) (sh_91 _ _) rfl rfl (Nat.le_of_ble_eq_true rfl) d_Passing_struckIn_144 ?_
              refine j_aload_n hx d_Passing_struckIn_147 rfl 5 rfl ?_
              refine j_callVi hx (c_Law_steersIn hG (tls (rs s 89 72 ((ship * 12) + (nI i)) ((rg (s (89 + 1)) 72 ((ship * 12) + (nI i))) ||| w7)) ship (rg (s (85 + 1)) 12 (nI i)) (rg ((rs s 89 72 ((ship * 12) + (nI i)) ((rg (s (89 + 1)) 72 ((ship * 12) + (nI i))) ||| w7)) (87 + 1)) 12 (nI i)) (nI i) (nI i))) mo_Law_steersIn mv_Law_steersIn t_490 (by decide) rfl (by decide) (sh_50 _ _) rfl rfl (Nat.le_of_ble_eq_true rfl) d_Passing_struckIn_148 ?_
              refine j_if_eq (tgt := 159) hx d_Passing_struckIn_151 (by decide) (fun zc151 => ?_) (fun zc151 => ?_)
              · skip
                refine j_iconst (v := 0) hx d_Passing_struckIn_159 (by decide) ?_
                refine j_ior hx d_Passing_struckIn_160 ?_
                refine j_callVv hx (c_Row_set hG ir_91 (lwS (tls (rs s 89 72 ((ship * 12) + (nI i)) ((rg (s (89 + 1)) 72 ((ship * 12) + (nI i))) ||| w7)) ship (rg (s (85 + 1)) 12 (nI i)) (rg ((rs s 89 72 ((ship * 12) + (nI i)) ((rg (s (89 + 1)) 72 ((ship * 12) + (nI i))) ||| w7)) (87 + 1)) 12 (nI i)) (nI i) (nI i))) ((ship * 12) + (nI i)) ((rg ((tls (rs s 89 72 ((ship * 12) + (nI i)) ((rg (s (89 + 1)) 72 ((ship * 12) + (nI i))) ||| w7)) ship (rg (s (85 + 1)) 12 (nI i)) (rg ((rs s 89 72 ((ship * 12) + (nI i)) ((rg (s (89 + 1)) 72 ((ship * 12) + (nI i))) ||| w7)) (87 + 1)) 12 (nI i)) (nI i) (nI i)) (91 + 1)) 72 ((ship * 12) + (nI i))) ||| 0)) mo_Row_set mv_Row_set t_470 (by decide) rfl (by decide) (sh_91 _ _) rfl rfl (Nat.le_of_ble_eq_true rfl) d_Passing_struckIn_161 ?_
                obtain ⟨s9_1, eg_1⟩ : ∃ z : St, z = psT s ship (nI i) w7 := ⟨_, rfl⟩
                refine J.to (σ' := s9_1) (by rw [eg_1]; first | exact psT_k zc87 | exact psT_1 zc87 zc151 | exact psT_2 zc87 zc151) rfl ?_
                refine j_aload_n hx d_Passing_struckIn_164 rfl 3 rfl ?_
                refine j_get hx ck_Passing 3 (by decide) t_245 (by decide) (sh_84 _ _) rfl d_Passing_struckIn_165 ?_
                refine j_iload hx d_Passing_struckIn_168 2 rfl ?_
                refine j_callVi hx (c_Row_getA hG ir_91 92 rfl s9_1 ((ship * 12) + (nI i))) mo_Row_get mv_Row_get t_449 (by decide) rfl (by decide) (sh_91 _ _) rfl rfl (Nat.le_of_ble_eq_true rfl) d_Passing_struckIn_170 ?_
                refine j_iload hx d_Passing_struckIn_173 0 rfl ?_
                refine j_iand hx d_Passing_struckIn_175 ?_
                refine j_if_eq (tgt := 182) hx d_Passing_struckIn_176 (by decide) (fun zc176 => ?_) (fun zc176 => ?_)
                · skip
                  refine j_iinc hx [(4, .int ((nI i) + 1)), (7, .int w7), (6, .int (rg (s (85 + 1)) 12 (nI i))), (5, .int ((ship * 12) + (nI i))), (0, .ref (G.1 84)), (1, .ref (G.1 4)), (2, .ref (G.1 50)), (3, .int ship)] d_Passing_struckIn_182 7 rfl rfl (by decide) rfl ?_
                  refine j_goto (tgt := 3) hx d_Passing_struckIn_185 (by decide) ?_
                  refine J.lsub (ls' := [(0, .ref (G.1 84)), (1, .ref (G.1 4)), (2, .ref (G.1 50)), (3, .int ship), (4, .int ((nI i) + 1))]) [4, 5, 6, 7, 0] rfl ?_
                  refine J.to ?_ ?_ (ih3 _ ?_ (i + 1) s9_1 hlt3 (by first | exact (psR_skip hlt3 (b2_z zc23)).symm.trans hr | (rw [eg_1]; rw [ew7] at eg_1 zc176 ⊢; rw [eg_1] at zc176; exact (psR_miss hlt3 (b2_nz zc23) zc176).symm.trans hr)) (by first | exact hf | (rw [eg_1, psT_o (by decide) (by decide) (by decide) (by decide)]; exact hf)) rfl)
                  · first | (rfl) | fail
                  · first | (simp only [nI_s]) | fail
                  · first | (omega) | fail
                · skip
                  refine j_iload hx d_Passing_struckIn_179 7 rfl ?_
                  exact j_iret hx hq rfl d_Passing_struckIn_181 (by first | (rw [ew7] at eg_1 zc176; rw [eg_1] at zc176; rw [← hr, psR_hit hlt3 (b2_nz zc23) zc176]) | fail) (by first | (rw [ew7] at eg_1 zc176; rw [eg_1] at zc176 ⊢; rw [← hr, psR_hit hlt3 (b2_nz zc23) zc176]) | fail)
              · skip
                refine j_iload hx d_Passing_struckIn_154 0 rfl ?_
                refine j_goto (tgt := 160) hx d_Passing_struckIn_156 (by decide) ?_
                refine j_ior hx d_Passing_struckIn_160 ?_
                refine j_callVv hx (c_Row_set hG ir_91 (lwS (tls (rs s 89 72 ((ship * 12) + (nI i)) ((rg (s (89 + 1)) 72 ((ship * 12) + (nI i))) ||| w7)) ship (rg (s (85 + 1)) 12 (nI i)) (rg ((rs s 89 72 ((ship * 12) + (nI i)) ((rg (s (89 + 1)) 72 ((ship * 12) + (nI i))) ||| w7)) (87 + 1)) 12 (nI i)) (nI i) (nI i))) ((ship * 12) + (nI i)) ((rg ((tls (rs s 89 72 ((ship * 12) + (nI i)) ((rg (s (89 + 1)) 72 ((ship * 12) + (nI i))) ||| w7)) ship (rg (s (85 + 1)) 12 (nI i)) (rg ((rs s 89 72 ((ship * 12) + (nI i)) ((rg (s (89 + 1)) 72 ((ship * 12) + (nI i))) ||| w7)) (87 + 1)) 12 (nI i)) (nI i) (nI i)) (91 + 1)) 72 ((ship * 12) + (nI i))) ||| w7)) mo_Row_set mv_Row_set t_470 (by decide) rfl (by decide) (sh_91 _ _) rfl rfl (Nat.le_of_ble_eq_true rfl) d_Passing_struckIn_161 ?_
                obtain ⟨s9_1, eg_1⟩ : ∃ z : St, z = psT s ship (nI i) w7 := ⟨_, rfl⟩
                refine J.to (σ' := s9_1) (by rw [eg_1]; first | exact psT_k zc87 | exact psT_1 zc87 zc151 | exact psT_2 zc87 zc151) rfl ?_
                refine j_aload_n hx d_Passing_struckIn_164 rfl 3 rfl ?_
                refine j_get hx ck_Passing 3 (by decide) t_245 (by decide) (sh_84 _ _) rfl d_Passing_struckIn_165 ?_
                refine j_iload hx d_Passing_struckIn_168 2 rfl ?_
                refine j_callVi hx (c_Row_getA hG ir_91 92 rfl s9_1 ((ship * 12) + (nI i))) mo_Row_get mv_Row_get t_449 (by decide) rfl (by decide) (sh_91 _ _) rfl rfl (Nat.le_of_ble_eq_true rfl) d_Passing_struckIn_170 ?_
                refine j_iload hx d_Passing_struckIn_173 0 rfl ?_
                refine j_iand hx d_Passing_struckIn_175 ?_
                refine j_if_eq (tgt := 182) hx d_Passing_struckIn_176 (by decide) (fun zc176 => ?_) (fun zc176 => ?_)
                · skip
                  refine j_iinc hx [(4, .int ((nI i) + 1)), (7, .int w7), (6, .int (rg (s (85 + 1)) 12 (nI i))), (5, .int ((ship * 12) + (nI i))), (0, .ref (G.1 84)), (1, .ref (G.1 4)), (2, .ref (G.1 50)), (3, .int ship)] d_Passing_struckIn_182 7 rfl rfl (by decide) rfl ?_
                  refine j_goto (tgt := 3) hx d_Passing_struckIn_185 (by decide) ?_
                  refine J.lsub (ls' := [(0, .ref (G.1 84)), (1, .ref (G.1 4)), (2, .ref (G.1 50)), (3, .int ship), (4, .int ((nI i) + 1))]) [4, 5, 6, 7, 0] rfl ?_
                  refine J.to ?_ ?_ (ih3 _ ?_ (i + 1) s9_1 hlt3 (by first | exact (psR_skip hlt3 (b2_z zc23)).symm.trans hr | (rw [eg_1]; rw [ew7] at eg_1 zc176 ⊢; rw [eg_1] at zc176; exact (psR_miss hlt3 (b2_nz zc23) zc176).symm.trans hr)) (by first | exact hf | (rw [eg_1, psT_o (by decide) (by decide) (by decide) (by decide)]; exact hf)) rfl)
                  · first | (rfl) | fail
                  · first | (simp only [nI_s]) | fail
                  · first | (omega) | fail
                · skip
                  refine j_iload hx d_Passing_struckIn_179 7 rfl ?_
                  exact j_iret hx hq rfl d_Passing_struckIn_181 (by first | (rw [ew7] at eg_1 zc176; rw [eg_1] at zc176; rw [← hr, psR_hit hlt3 (b2_nz zc23) zc176]) | fail) (by first | (rw [ew7] at eg_1 zc176; rw [eg_1] at zc176 ⊢; rw [← hr, psR_hit hlt3 (b2_nz zc23) zc176]) | fail)
          · skip
            refine j_bipush (v := 11) hx d_Passing_struckIn_55 (by decide) ?_
            refine j_iload hx d_Passing_struckIn_57 0 rfl ?_
            refine j_iadd hx d_Passing_struckIn_59 ?_
            refine j_goto (tgt := 72) hx d_Passing_struckIn_60 (by decide) ?_
            refine j_ishl hx d_Passing_struckIn_72 ?_
            refine j_istore hx [(7, .int (1 <<< ((11 + (rg (s (85 + 1)) 12 (nI i))) &&& 31))), (6, .int (rg (s (85 + 1)) 12 (nI i))), (5, .int ((ship * 12) + (nI i))), (0, .ref (G.1 84)), (1, .ref (G.1 4)), (2, .ref (G.1 50)), (3, .int ship), (4, .int (nI i))] d_Passing_struckIn_73 (by decide) rfl ?_
            obtain ⟨w7, ew7⟩ : ∃ z : Int32, z = psV s (nI i) := ⟨_, rfl⟩
            refine J.to (ls' := [(7, .int w7), (6, .int (rg (s (85 + 1)) 12 (nI i))), (5, .int ((ship * 12) + (nI i))), (0, .ref (G.1 84)), (1, .ref (G.1 4)), (2, .ref (G.1 50)), (3, .int ship), (4, .int (nI i))]) rfl (by rw [ew7]; unfold psV; first | (rw [if_pos zc52]; done) | (rw [if_neg zc52]; done)) ?_
            refine j_aload_n hx d_Passing_struckIn_75 rfl 3 rfl ?_
            refine j_get hx ck_Passing 2 (by decide) t_244 (by decide) (sh_84 _ _) rfl d_Passing_struckIn_76 ?_
            refine j_iload hx d_Passing_struckIn_79 2 rfl ?_
            refine j_callVi hx (c_Row_getA hG ir_89 90 rfl s ((ship * 12) + (nI i))) mo_Row_get mv_Row_get t_449 (by decide) rfl (by decide) (sh_89 _ _) rfl rfl (Nat.le_of_ble_eq_true rfl) d_Passing_struckIn_81 ?_
            refine j_iload hx d_Passing_struckIn_84 0 rfl ?_
            refine j_iand hx d_Passing_struckIn_86 ?_
            refine j_if_ne (tgt := 164) hx d_Passing_struckIn_87 (by decide) (fun zc87 => ?_) (fun zc87 => ?_)
            · skip
              obtain ⟨s9_1, eg_1⟩ : ∃ z : St, z = psT s ship (nI i) w7 := ⟨_, rfl⟩
              refine J.to (σ' := s9_1) (by rw [eg_1]; first | exact psT_k zc87 | exact psT_1 zc87 zc151 | exact psT_2 zc87 zc151) rfl ?_
              refine j_aload_n hx d_Passing_struckIn_164 rfl 3 rfl ?_
              refine j_get hx ck_Passing 3 (by decide) t_245 (by decide) (sh_84 _ _) rfl d_Passing_struckIn_165 ?_
              refine j_iload hx d_Passing_struckIn_168 2 rfl ?_
              refine j_callVi hx (c_Row_getA hG ir_91 92 rfl s9_1 ((ship * 12) + (nI i))) mo_Row_get mv_Row_get t_449 (by decide) rfl (by decide) (sh_91 _ _) rfl rfl (Nat.le_of_ble_eq_true rfl) d_Passing_struckIn_170 ?_
              refine j_iload hx d_Passing_struckIn_173 0 rfl ?_
              refine j_iand hx d_Passing_struckIn_175 ?_
              refine j_if_eq (tgt := 182) hx d_Passing_struckIn_176 (by decide) (fun zc176 => ?_) (fun zc176 => ?_)
              · skip
                refine j_iinc hx [(4, .int ((nI i) + 1)), (7, .int w7), (6, .int (rg (s (85 + 1)) 12 (nI i))), (5, .int ((ship * 12) + (nI i))), (0, .ref (G.1 84)), (1, .ref (G.1 4)), (2, .ref (G.1 50)), (3, .int ship)] d_Passing_struckIn_182 7 rfl rfl (by decide) rfl ?_
                refine j_goto (tgt := 3) hx d_Passing_struckIn_185 (by decide) ?_
                refine J.lsub (ls' := [(0, .ref (G.1 84)), (1, .ref (G.1 4)), (2, .ref (G.1 50)), (3, .int ship), (4, .int ((nI i) + 1))]) [4, 5, 6, 7, 0] rfl ?_
                refine J.to ?_ ?_ (ih3 _ ?_ (i + 1) s9_1 hlt3 (by first | exact (psR_skip hlt3 (b2_z zc23)).symm.trans hr | (rw [eg_1]; rw [ew7] at eg_1 zc176 ⊢; rw [eg_1] at zc176; exact (psR_miss hlt3 (b2_nz zc23) zc176).symm.trans hr)) (by first | exact hf | (rw [eg_1, psT_o (by decide) (by decide) (by decide) (by decide)]; exact hf)) rfl)
                · first | (rfl) | fail
                · first | (simp only [nI_s]) | fail
                · first | (omega) | fail
              · skip
                refine j_iload hx d_Passing_struckIn_179 7 rfl ?_
                exact j_iret hx hq rfl d_Passing_struckIn_181 (by first | (rw [ew7] at eg_1 zc176; rw [eg_1] at zc176; rw [← hr, psR_hit hlt3 (b2_nz zc23) zc176]) | fail) (by first | (rw [ew7] at eg_1 zc176; rw [eg_1] at zc176 ⊢; rw [← hr, psR_hit hlt3 (b2_nz zc23) zc176]) | fail)
            · skip
              refine j_aload_n hx d_Passing_struckIn_90 rfl 3 rfl ?_
              refine j_get hx ck_Passing 2 (by decide) t_244 (by decide) (sh_84 _ _) rfl d_Passing_struckIn_91 ?_
              refine j_iload hx d_Passing_struckIn_94 2 rfl ?_
              refine j_aload_n hx d_Passing_struckIn_96 rfl 3 rfl ?_
              refine j_get hx ck_Passing 2 (by decide) t_244 (by decide) (sh_84 _ _) rfl d_Passing_struckIn_97 ?_
              refine j_iload hx d_Passing_struckIn_100 2 rfl ?_
              refine j_callVi hx (c_Row_getA hG ir_89 90 rfl s ((ship * 12) + (nI i))) mo_Row_get mv_Row_get t_449 (by decide) rfl (by decide) (sh_89 _ _) rfl rfl (Nat.le_of_ble_eq_true rfl) d_Passing_struckIn_102 ?_
              refine j_iload hx d_Passing_struckIn_105 0 rfl ?_
              refine j_ior hx d_Passing_struckIn_107 ?_
              refine j_callVv hx (c_Row_set hG ir_89 s ((ship * 12) + (nI i)) ((rg (s (89 + 1)) 72 ((ship * 12) + (nI i))) ||| w7)) mo_Row_set mv_Row_set t_470 (by decide) rfl (by decide) (sh_89 _ _) rfl rfl (Nat.le_of_ble_eq_true rfl) d_Passing_struckIn_108 ?_
              refine j_aload_n hx d_Passing_struckIn_111 rfl 5 rfl ?_
              refine j_aload_n hx d_Passing_struckIn_112 rfl 4 rfl ?_
              refine j_iload_n hx d_Passing_struckIn_113 rfl 6 rfl ?_
              refine j_iload hx d_Passing_struckIn_114 1 rfl ?_
              refine j_aload_n hx d_Passing_struckIn_116 rfl 3 rfl ?_
              refine j_get hx ck_Passing 1 (by decide) t_243 (by decide) (sh_84 _ _) rfl d_Passing_struckIn_117 ?_
              refine j_iload hx d_Passing_struckIn_120 7 rfl ?_
              refine j_callVi hx (c_Row_getA hG ir_87 88 rfl (rs s 89 72 ((ship * 12) + (nI i)) ((rg (s (89 + 1)) 72 ((ship * 12) + (nI i))) ||| w7)) (nI i)) mo_Row_get mv_Row_get t_449 (by decide) rfl (by decide) (sh_87 _ _) rfl rfl (Nat.le_of_ble_eq_true rfl) d_Passing_struckIn_122 ?_
              refine j_iload hx d_Passing_struckIn_125 7 rfl ?_
              refine j_iload hx d_Passing_struckIn_127 7 rfl ?_
              refine j_callVv hx (c_Law_tellShip hG (rs s 89 72 ((ship * 12) + (nI i)) ((rg (s (89 + 1)) 72 ((ship * 12) + (nI i))) ||| w7)) ship (rg (s (85 + 1)) 12 (nI i)) (rg ((rs s 89 72 ((ship * 12) + (nI i)) ((rg (s (89 + 1)) 72 ((ship * 12) + (nI i))) ||| w7)) (87 + 1)) 12 (nI i)) (nI i) (nI i)) mo_Law_tellShip mv_Law_tellShip t_485 (by decide) rfl (by decide) (sh_50 _ _) rfl rfl (Nat.le_of_ble_eq_true rfl) d_Passing_struckIn_129 ?_
              refine j_aload_n hx d_Passing_struckIn_132 rfl 3 rfl ?_
              refine j_get hx ck_Passing 3 (by decide) t_245 (by decide) (sh_84 _ _) rfl d_Passing_struckIn_133 ?_
              refine j_iload hx d_Passing_struckIn_136 2 rfl ?_
              refine j_aload_n hx d_Passing_struckIn_138 rfl 3 rfl ?_
              refine j_get hx ck_Passing 3 (by decide) t_245 (by decide) (sh_84 _ _) rfl d_Passing_struckIn_139 ?_
              refine j_iload hx d_Passing_struckIn_142 2 rfl ?_
              refine j_callVi hx (c_Row_getA hG ir_91 92 rfl (tls (rs s 89 72 ((ship * 12) + (nI i)) ((rg (s (89 + 1)) 72 ((ship * 12) + (nI i))) ||| w7)) ship (rg (s (85 + 1)) 12 (nI i)) (rg ((rs s 89 72 ((ship * 12) + (nI i)) ((rg (s (89 + 1)) 72 ((ship * 12) + (nI i))) ||| w7)) (87 + 1)) 12 (nI i)) (nI i) (nI i)) ((ship * 12) + (nI i))) mo_Row_get mv_Row_get t_449 (by decide) rfl (by decide) (sh_91 _ _) rfl rfl (Nat.le_of_ble_eq_true rfl) d_Passing_struckIn_144 ?_
              refine j_aload_n hx d_Passing_struckIn_147 rfl 5 rfl ?_
              refine j_callVi hx (c_Law_steersIn hG (tls (rs s 89 72 ((ship * 12) + (nI i)) ((rg (s (89 + 1)) 72 ((ship * 12) + (nI i))) ||| w7)) ship (rg (s (85 + 1)) 12 (nI i)) (rg ((rs s 89 72 ((ship * 12) + (nI i)) ((rg (s (89 + 1)) 72 ((ship * 12) + (nI i))) ||| w7)) (87 + 1)) 12 (nI i)) (nI i) (nI i))) mo_Law_steersIn mv_Law_steersIn t_490 (by decide) rfl (by decide) (sh_50 _ _) rfl rfl (Nat.le_of_ble_eq_true rfl) d_Passing_struckIn_148 ?_
              refine j_if_eq (tgt := 159) hx d_Passing_struckIn_151 (by decide) (fun zc151 => ?_) (fun zc151 => ?_)
              · skip
                refine j_iconst (v := 0) hx d_Passing_struckIn_159 (by decide) ?_
                refine j_ior hx d_Passing_struckIn_160 ?_
                refine j_callVv hx (c_Row_set hG ir_91 (lwS (tls (rs s 89 72 ((ship * 12) + (nI i)) ((rg (s (89 + 1)) 72 ((ship * 12) + (nI i))) ||| w7)) ship (rg (s (85 + 1)) 12 (nI i)) (rg ((rs s 89 72 ((ship * 12) + (nI i)) ((rg (s (89 + 1)) 72 ((ship * 12) + (nI i))) ||| w7)) (87 + 1)) 12 (nI i)) (nI i) (nI i))) ((ship * 12) + (nI i)) ((rg ((tls (rs s 89 72 ((ship * 12) + (nI i)) ((rg (s (89 + 1)) 72 ((ship * 12) + (nI i))) ||| w7)) ship (rg (s (85 + 1)) 12 (nI i)) (rg ((rs s 89 72 ((ship * 12) + (nI i)) ((rg (s (89 + 1)) 72 ((ship * 12) + (nI i))) ||| w7)) (87 + 1)) 12 (nI i)) (nI i) (nI i)) (91 + 1)) 72 ((ship * 12) + (nI i))) ||| 0)) mo_Row_set mv_Row_set t_470 (by decide) rfl (by decide) (sh_91 _ _) rfl rfl (Nat.le_of_ble_eq_true rfl) d_Passing_struckIn_161 ?_
                obtain ⟨s9_1, eg_1⟩ : ∃ z : St, z = psT s ship (nI i) w7 := ⟨_, rfl⟩
                refine J.to (σ' := s9_1) (by rw [eg_1]; first | exact psT_k zc87 | exact psT_1 zc87 zc151 | exact psT_2 zc87 zc151) rfl ?_
                refine j_aload_n hx d_Passing_struckIn_164 rfl 3 rfl ?_
                refine j_get hx ck_Passing 3 (by decide) t_245 (by decide) (sh_84 _ _) rfl d_Passing_struckIn_165 ?_
                refine j_iload hx d_Passing_struckIn_168 2 rfl ?_
                refine j_callVi hx (c_Row_getA hG ir_91 92 rfl s9_1 ((ship * 12) + (nI i))) mo_Row_get mv_Row_get t_449 (by decide) rfl (by decide) (sh_91 _ _) rfl rfl (Nat.le_of_ble_eq_true rfl) d_Passing_struckIn_170 ?_
                refine j_iload hx d_Passing_struckIn_173 0 rfl ?_
                refine j_iand hx d_Passing_struckIn_175 ?_
                refine j_if_eq (tgt := 182) hx d_Passing_struckIn_176 (by decide) (fun zc176 => ?_) (fun zc176 => ?_)
                · skip
                  refine j_iinc hx [(4, .int ((nI i) + 1)), (7, .int w7), (6, .int (rg (s (85 + 1)) 12 (nI i))), (5, .int ((ship * 12) + (nI i))), (0, .ref (G.1 84)), (1, .ref (G.1 4)), (2, .ref (G.1 50)), (3, .int ship)] d_Passing_struckIn_182 7 rfl rfl (by decide) rfl ?_
                  refine j_goto (tgt := 3) hx d_Passing_struckIn_185 (by decide) ?_
                  refine J.lsub (ls' := [(0, .ref (G.1 84)), (1, .ref (G.1 4)), (2, .ref (G.1 50)), (3, .int ship), (4, .int ((nI i) + 1))]) [4, 5, 6, 7, 0] rfl ?_
                  refine J.to ?_ ?_ (ih3 _ ?_ (i + 1) s9_1 hlt3 (by first | exact (psR_skip hlt3 (b2_z zc23)).symm.trans hr | (rw [eg_1]; rw [ew7] at eg_1 zc176 ⊢; rw [eg_1] at zc176; exact (psR_miss hlt3 (b2_nz zc23) zc176).symm.trans hr)) (by first | exact hf | (rw [eg_1, psT_o (by decide) (by decide) (by decide) (by decide)]; exact hf)) rfl)
                  · first | (rfl) | fail
                  · first | (simp only [nI_s]) | fail
                  · first | (omega) | fail
                · skip
                  refine j_iload hx d_Passing_struckIn_179 7 rfl ?_
                  exact j_iret hx hq rfl d_Passing_struckIn_181 (by first | (rw [ew7] at eg_1 zc176; rw [eg_1] at zc176; rw [← hr, psR_hit hlt3 (b2_nz zc23) zc176]) | fail) (by first | (rw [ew7] at eg_1 zc176; rw [eg_1] at zc176 ⊢; rw [← hr, psR_hit hlt3 (b2_nz zc23) zc176]) | fail)
              · skip
                refine j_iload hx d_Passing_struckIn_154 0 rfl ?_
                refine j_goto (tgt := 160) hx d_Passing_struckIn_156 (by decide) ?_
                refine j_ior hx d_Passing_struckIn_160 ?_
                refine j_callVv hx (c_Row_set hG ir_91 (lwS (tls (rs s 89 72 ((ship * 12) + (nI i)) ((rg (s (89 + 1)) 72 ((ship * 12) + (nI i))) ||| w7)) ship (rg (s (85 + 1)) 12 (nI i)) (rg ((rs s 89 72 ((ship * 12) + (nI i)) ((rg (s (89 + 1)) 72 ((ship * 12) + (nI i))) ||| w7)) (87 + 1)) 12 (nI i)) (nI i) (nI i))) ((ship * 12) + (nI i)) ((rg ((tls (rs s 89 72 ((ship * 12) + (nI i)) ((rg (s (89 + 1)) 72 ((ship * 12) + (nI i))) ||| w7)) ship (rg (s (85 + 1)) 12 (nI i)) (rg ((rs s 89 72 ((ship * 12) + (nI i)) ((rg (s (89 + 1)) 72 ((ship * 12) + (nI i))) ||| w7)) (87 + 1)) 12 (nI i)) (nI i) (nI i)) (91 + 1)) 72 ((ship * 12) + (nI i))) ||| w7)) mo_Row_set mv_Row_set t_470 (by decide) rfl (by decide) (sh_91 _ _) rfl rfl (Nat.le_of_ble_eq_true rfl) d_Passing_struckIn_161 ?_
                obtain ⟨s9_1, eg_1⟩ : ∃ z : St, z = psT s ship (nI i) w7 := ⟨_, rfl⟩
                refine J.to (σ' := s9_1) (by rw [eg_1]; first | exact psT_k zc87 | exact psT_1 zc87 zc151 | exact psT_2 zc87 zc151) rfl ?_
                refine j_aload_n hx d_Passing_struckIn_164 rfl 3 rfl ?_
                refine j_get hx ck_Passing 3 (by decide) t_245 (by decide) (sh_84 _ _) rfl d_Passing_struckIn_165 ?_
                refine j_iload hx d_Passing_struckIn_168 2 rfl ?_
                refine j_callVi hx (c_Row_getA hG ir_91 92 rfl s9_1 ((ship * 12) + (nI i))) mo_Row_get mv_Row_get t_449 (by decide) rfl (by decide) (sh_91 _ _) rfl rfl (Nat.le_of_ble_eq_true rfl) d_Passing_struckIn_170 ?_
                refine j_iload hx d_Passing_struckIn_173 0 rfl ?_
                refine j_iand hx d_Passing_struckIn_175 ?_
                refine j_if_eq (tgt := 182) hx d_Passing_struckIn_176 (by decide) (fun zc176 => ?_) (fun zc176 => ?_)
                · skip
                  refine j_iinc hx [(4, .int ((nI i) + 1)), (7, .int w7), (6, .int (rg (s (85 + 1)) 12 (nI i))), (5, .int ((ship * 12) + (nI i))), (0, .ref (G.1 84)), (1, .ref (G.1 4)), (2, .ref (G.1 50)), (3, .int ship)] d_Passing_struckIn_182 7 rfl rfl (by decide) rfl ?_
                  refine j_goto (tgt := 3) hx d_Passing_struckIn_185 (by decide) ?_
                  refine J.lsub (ls' := [(0, .ref (G.1 84)), (1, .ref (G.1 4)), (2, .ref (G.1 50)), (3, .int ship), (4, .int ((nI i) + 1))]) [4, 5, 6, 7, 0] rfl ?_
                  refine J.to ?_ ?_ (ih3 _ ?_ (i + 1) s9_1 hlt3 (by first | exact (psR_skip hlt3 (b2_z zc23)).symm.trans hr | (rw [eg_1]; rw [ew7] at eg_1 zc176 ⊢; rw [eg_1] at zc176; exact (psR_miss hlt3 (b2_nz zc23) zc176).symm.trans hr)) (by first | exact hf | (rw [eg_1, psT_o (by decide) (by decide) (by decide) (by decide)]; exact hf)) rfl)
                  · first | (rfl) | fail
                  · first | (simp only [nI_s]) | fail
                  · first | (omega) | fail
                · skip
                  refine j_iload hx d_Passing_struckIn_179 7 rfl ?_
                  exact j_iret hx hq rfl d_Passing_struckIn_181 (by first | (rw [ew7] at eg_1 zc176; rw [eg_1] at zc176; rw [← hr, psR_hit hlt3 (b2_nz zc23) zc176]) | fail) (by first | (rw [ew7] at eg_1 zc176; rw [eg_1] at zc176 ⊢; rw [← hr, psR_hit hlt3 (b2_nz zc23) zc176]) | fail)
        · skip
          refine j_goto (tgt := 182) hx d_Passing_struckIn_26 (by decide) ?_
          refine j_iinc hx [(4, .int ((nI i) + 1)), (0, .ref (G.1 84)), (1, .ref (G.1 4)), (2, .ref (G.1 50)), (3, .int ship)] d_Passing_struckIn_182 4 rfl rfl (by decide) rfl ?_
          refine j_goto (tgt := 3) hx d_Passing_struckIn_185 (by decide) ?_
          refine J.lsub (ls' := [(0, .ref (G.1 84)), (1, .ref (G.1 4)), (2, .ref (G.1 50)), (3, .int ship), (4, .int ((nI i) + 1))]) [1, 2, 3, 4, 0] rfl ?_
          refine J.to ?_ ?_ (ih3 _ ?_ (i + 1) s hlt3 (by first | exact (psR_skip hlt3 (b2_z zc23)).symm.trans hr | (rw [eg_1]; rw [ew7] at eg_1 zc176 ⊢; rw [eg_1] at zc176; exact (psR_miss hlt3 (b2_nz zc23) zc176).symm.trans hr)) (by first | exact hf | (rw [eg_1, psT_o (by decide) (by decide) (by decide) (by decide)]; exact hf)) rfl)
          · first | (rfl) | fail
          · first | (simp only [nI_s]) | fail
          · first | (omega) | fail
  refine J.lsub (ls' := [(0, .ref (G.1 84)), (1, .ref (G.1 4)), (2, .ref (G.1 50)), (3, .int ship), (4, .int 0)]) [1, 2, 3, 4, 0] rfl ?_
  refine J.to ?_ ?_ (hl3 _ 0 σ (Nat.zero_le _) rfl rfl rfl)
  · first | (rfl) | fail
  · first | (rfl) | fail

set_option maxRecDepth 20000 in
set_option maxHeartbeats 4000000 in
theorem c_Passing_pass {l : Launch} {G : Gz} (hG : zI G) {o : Nat} (ho_o : isNights o) (σ : St) (ship : Int32) : MV l G y_Passing_pass prog_7_method_6_code 5 6 [.ref (G.1 84), .ref (G.1 4), .ref (G.1 50), .ref (G.1 (o)), .int ship] σ (hps (psk (pbS σ o) ship).2 o ship (psk (pbS σ o) ship).1) := by
  refine MV.of hG (by decide) (Nat.le_of_ble_eq_true rfl) (fun X hx hq => ?_)
  show J l G X 5 σ 0 [(0, .ref (G.1 84)), (1, .ref (G.1 4)), (2, .ref (G.1 50)), (3, .ref (G.1 (o))), (4, .int ship)] []
  refine j_aload_n hx d_Passing_pass_0 rfl 0 rfl ?_
  refine j_aload_n hx d_Passing_pass_1 rfl 1 rfl ?_
  refine j_aload_n hx d_Passing_pass_2 rfl 2 rfl ?_
  refine j_aload_n hx d_Passing_pass_3 rfl 3 rfl ?_
  refine j_callVv hx (c_Passing_begin hG ho_o σ) mo_Passing_begin mv_Passing_begin t_902 (by decide) rfl (by decide) (sh_84 _ _) rfl rfl (Nat.le_of_ble_eq_true rfl) d_Passing_pass_4 ?_
  refine j_aload_n hx d_Passing_pass_7 rfl 3 rfl ?_
  refine j_aload_n hx d_Passing_pass_8 rfl 1 rfl ?_
  refine j_iload hx d_Passing_pass_9 4 rfl ?_
  refine j_aload_n hx d_Passing_pass_11 rfl 0 rfl ?_
  refine j_aload_n hx d_Passing_pass_12 rfl 1 rfl ?_
  refine j_aload_n hx d_Passing_pass_13 rfl 2 rfl ?_
  refine j_iload hx d_Passing_pass_14 4 rfl ?_
  refine j_callVi hx (c_Passing_struckIn hG (pbS σ o) ship) mo_Passing_struckIn mv_Passing_struckIn t_903 (by decide) rfl (by decide) (sh_84 _ _) rfl rfl (Nat.le_of_ble_eq_true rfl) d_Passing_pass_16 ?_
  refine j_callVv hx (c_Nights_hasPassed hG ho_o ((psk (pbS σ o) ship).2) ship ((psk (pbS σ o) ship).1)) mo_Nights_hasPassed mv_Nights_hasPassed t_904 (by decide) rfl (by have := ho_o.1; omega) (ho_o.2.1 _ _) rfl rfl (Nat.le_of_ble_eq_true rfl) d_Passing_pass_19 ?_
  exact j_vret hx hq d_Passing_pass_22 (by first | (first | rfl | (simp only []; done) | (simp []; done)) | fail)

set_option maxRecDepth 20000 in
set_option maxHeartbeats 4000000 in
theorem c_Passing_steeredCells {l : Launch} {G : Gz} (hG : zI G) (σ : St) (ship : Int32) (w : Int32) (hw : (lmi σ w).toInt < 1000) : MI l G y_Passing_steeredCells prog_7_method_8_code 7 .int 3 [.ref (G.1 84), .ref (G.1 4), .ref (G.1 50), .int ship, .int w] σ ((scl σ ship (cl (lmi σ w))).2) ((scl σ ship (cl (lmi σ w))).1) := by
  refine MI.of hG (by decide) (Nat.le_of_ble_eq_true rfl) (fun X hx hq => ?_)
  show J l G X 7 σ 0 [(0, .ref (G.1 84)), (1, .ref (G.1 4)), (2, .ref (G.1 50)), (3, .int ship), (4, .int w)] []
  refine j_iconst (v := 0) hx d_Passing_steeredCells_0 (by decide) ?_
  refine j_istore hx [(5, .int 0), (0, .ref (G.1 84)), (1, .ref (G.1 4)), (2, .ref (G.1 50)), (3, .int ship), (4, .int w)] d_Passing_steeredCells_1 (by decide) rfl ?_
  refine j_iconst (v := 0) hx d_Passing_steeredCells_3 (by decide) ?_
  refine j_istore hx [(6, .int 0), (5, .int 0), (0, .ref (G.1 84)), (1, .ref (G.1 4)), (2, .ref (G.1 50)), (3, .int ship), (4, .int w)] d_Passing_steeredCells_4 (by decide) rfl ?_
  have hl6 : ∀ (N9 : Nat) (i : Nat), (i ≤ (cl (lmi σ w))) → (cl (lmi σ w)) - i = N9 → J l G X 7 ((scl σ ship i).1) 6 [(0, .ref (G.1 84)), (1, .ref (G.1 4)), (2, .ref (G.1 50)), (3, .int ship), (4, .int w), (5, .int ((scl σ ship i).2)), (6, .int (nI i))] [] := by
    intro N9
    induction N9 using Nat.strongRecOn with
    | _ N9 ih6 =>
      intro i hi_i hm6
      refine j_iload hx d_Passing_steeredCells_6 6 rfl ?_
      refine j_aload_n hx d_Passing_steeredCells_8 rfl 1 rfl ?_
      refine j_iload hx d_Passing_steeredCells_9 4 rfl ?_
      refine j_callSi hx (c_Passing_lastMinute hG ((scl σ ship i).1) w) mo_Passing_lastMinute t_1075 t_1074 (by decide) rfl rfl (Nat.le_of_ble_eq_true rfl) d_Passing_steeredCells_11 ?_
      refine j_icmp_gt (tgt := 71) hx d_Passing_steeredCells_14 (by decide) (fun zc14 => ?_) (fun zc14 => ?_)
      · skip
        obtain rfl := cl_end hi_i hw (by have q9 := zc14; rw [lmi_6 (scl_o (by decide) (by decide))] at q9; exact q9)
        refine j_iload hx d_Passing_steeredCells_71 5 rfl ?_
        exact j_iret hx hq rfl d_Passing_steeredCells_73 (by first | (first | rfl | (simp only [zc14]; done) | (simp [zc14]; done)) | fail) (by first | (first | rfl | (simp only [zc14]; done) | (simp [zc14]; done)) | fail)
      · skip
        have hlt6 := cl_go hi_i hw (by have q9 := zc14; rw [lmi_6 (scl_o (by decide) (by decide))] at q9; exact q9)
        refine j_aload_n hx d_Passing_steeredCells_17 rfl 2 rfl ?_
        refine j_aload_n hx d_Passing_steeredCells_18 rfl 1 rfl ?_
        refine j_iload_n hx d_Passing_steeredCells_19 rfl 3 rfl ?_
        refine j_aload_n hx d_Passing_steeredCells_20 rfl 0 rfl ?_
        refine j_get hx ck_Passing 0 (by decide) t_242 (by decide) (sh_84 _ _) rfl d_Passing_steeredCells_21 ?_
        refine j_iload hx d_Passing_steeredCells_24 6 rfl ?_
        refine j_callVi hx (c_Row_getA hG ir_85 86 rfl ((scl σ ship i).1) (nI i)) mo_Row_get mv_Row_get t_449 (by decide) rfl (by decide) (sh_85 _ _) rfl rfl (Nat.le_of_ble_eq_true rfl) d_Passing_steeredCells_26 ?_
        refine j_aload_n hx d_Passing_steeredCells_29 rfl 0 rfl ?_
        refine j_get hx ck_Passing 1 (by decide) t_243 (by decide) (sh_84 _ _) rfl d_Passing_steeredCells_30 ?_
        refine j_iload hx d_Passing_steeredCells_33 6 rfl ?_
        refine j_callVi hx (c_Row_getA hG ir_87 88 rfl ((scl σ ship i).1) (nI i)) mo_Row_get mv_Row_get t_449 (by decide) rfl (by decide) (sh_87 _ _) rfl rfl (Nat.le_of_ble_eq_true rfl) d_Passing_steeredCells_35 ?_
        refine j_iload hx d_Passing_steeredCells_38 6 rfl ?_
        refine j_iload hx d_Passing_steeredCells_40 6 rfl ?_
        refine j_callVv hx (c_Law_tellShip hG ((scl σ ship i).1) ship (rg (((scl σ ship i).1) (85 + 1)) 12 (nI i)) (rg (((scl σ ship i).1) (87 + 1)) 12 (nI i)) (nI i) (nI i)) mo_Law_tellShip mv_Law_tellShip t_485 (by decide) rfl (by decide) (sh_50 _ _) rfl rfl (Nat.le_of_ble_eq_true rfl) d_Passing_steeredCells_42 ?_
        refine j_iload hx d_Passing_steeredCells_45 5 rfl ?_
        refine j_aload_n hx d_Passing_steeredCells_47 rfl 2 rfl ?_
        refine j_callVi hx (c_Law_steersIn hG (tls ((scl σ ship i).1) ship (rg (((scl σ ship i).1) (85 + 1)) 12 (nI i)) (rg (((scl σ ship i).1) (87 + 1)) 12 (nI i)) (nI i) (nI i))) mo_Law_steersIn mv_Law_steersIn t_490 (by decide) rfl (by decide) (sh_50 _ _) rfl rfl (Nat.le_of_ble_eq_true rfl) d_Passing_steeredCells_48 ?_
        refine j_if_eq (tgt := 61) hx d_Passing_steeredCells_51 (by decide) (fun zc51 => ?_) (fun zc51 => ?_)
        · skip
          refine j_iconst (v := 0) hx d_Passing_steeredCells_61 (by decide) ?_
          refine j_ior hx d_Passing_steeredCells_62 ?_
          refine j_istore hx [(5, .int (((scl σ ship i).2) ||| 0)), (0, .ref (G.1 84)), (1, .ref (G.1 4)), (2, .ref (G.1 50)), (3, .int ship), (4, .int w), (6, .int (nI i))] d_Passing_steeredCells_63 (by decide) rfl ?_
          refine j_iinc hx [(6, .int ((nI i) + 1)), (5, .int (((scl σ ship i).2) ||| 0)), (0, .ref (G.1 84)), (1, .ref (G.1 4)), (2, .ref (G.1 50)), (3, .int ship), (4, .int w)] d_Passing_steeredCells_65 6 rfl rfl (by decide) rfl ?_
          refine j_goto (tgt := 6) hx d_Passing_steeredCells_68 (by decide) ?_
          refine J.lsub (ls' := [(0, .ref (G.1 84)), (1, .ref (G.1 4)), (2, .ref (G.1 50)), (3, .int ship), (4, .int w), (5, .int (((scl σ ship i).2) ||| 0)), (6, .int ((nI i) + 1))]) [2, 3, 4, 5, 6, 1, 0] rfl ?_
          refine J.to ?_ ?_ (ih6 _ ?_ (i + 1) hlt6 rfl)
          · first | (first | (rw [scl_1 zc51]; done) | (rw [scl_2 zc51]; done) | (rw [scl_1 zc51]; rfl) | (rw [scl_2 zc51]; rfl)) | fail
          · first | (simp only [nI_s]; first | (rw [scl_1 zc51]; done) | (rw [scl_2 zc51]; done)) | fail
          · first | (omega) | fail
        · skip
          refine j_iconst (v := 1) hx d_Passing_steeredCells_54 (by decide) ?_
          refine j_iload hx d_Passing_steeredCells_55 6 rfl ?_
          refine j_ishl hx d_Passing_steeredCells_57 ?_
          refine j_goto (tgt := 62) hx d_Passing_steeredCells_58 (by decide) ?_
          refine j_ior hx d_Passing_steeredCells_62 ?_
          refine j_istore hx [(5, .int (((scl σ ship i).2) ||| (1 <<< ((nI i) &&& 31)))), (0, .ref (G.1 84)), (1, .ref (G.1 4)), (2, .ref (G.1 50)), (3, .int ship), (4, .int w), (6, .int (nI i))] d_Passing_steeredCells_63 (by decide) rfl ?_
          refine j_iinc hx [(6, .int ((nI i) + 1)), (5, .int (((scl σ ship i).2) ||| (1 <<< ((nI i) &&& 31)))), (0, .ref (G.1 84)), (1, .ref (G.1 4)), (2, .ref (G.1 50)), (3, .int ship), (4, .int w)] d_Passing_steeredCells_65 6 rfl rfl (by decide) rfl ?_
          refine j_goto (tgt := 6) hx d_Passing_steeredCells_68 (by decide) ?_
          refine J.lsub (ls' := [(0, .ref (G.1 84)), (1, .ref (G.1 4)), (2, .ref (G.1 50)), (3, .int ship), (4, .int w), (5, .int (((scl σ ship i).2) ||| (1 <<< ((nI i) &&& 31)))), (6, .int ((nI i) + 1))]) [2, 3, 4, 5, 6, 1, 0] rfl ?_
          refine J.to ?_ ?_ (ih6 _ ?_ (i + 1) hlt6 rfl)
          · first | (first | (rw [scl_1 zc51]; done) | (rw [scl_2 zc51]; done) | (rw [scl_1 zc51]; rfl) | (rw [scl_2 zc51]; rfl)) | fail
          · first | (simp only [nI_s]; first | (rw [scl_1 zc51]; done) | (rw [scl_2 zc51]; done)) | fail
          · first | (omega) | fail
  refine J.lsub (ls' := [(0, .ref (G.1 84)), (1, .ref (G.1 4)), (2, .ref (G.1 50)), (3, .int ship), (4, .int w), (5, .int 0), (6, .int 0)]) [2, 3, 4, 5, 6, 1, 0] rfl ?_
  refine J.to ?_ ?_ (hl6 _ 0 (Nat.zero_le _) rfl)
  · first | (rfl) | fail
  · first | (rfl) | fail

set_option maxRecDepth 20000 in
set_option maxHeartbeats 4000000 in
theorem c_Passing_flashesTo {l : Launch} {G : Gz} (hG : zI G) (σ : St) (w : Int32) (hw : (lmi σ w).toInt < 1000) : MI l G y_Passing_flashesTo prog_7_method_9_code 5 .int 3 [.ref (G.1 84), .ref (G.1 4), .int w] σ (sm (fun m => rg (σ 86) 12 (nI m)) (cl (lmi σ w))) σ := by
  refine MI.of hG (by decide) (Nat.le_of_ble_eq_true rfl) (fun X hx hq => ?_)
  show J l G X 5 σ 0 [(0, .ref (G.1 84)), (1, .ref (G.1 4)), (2, .int w)] []
  refine j_iconst (v := 0) hx d_Passing_flashesTo_0 (by decide) ?_
  refine j_istore_n hx [(3, .int 0), (0, .ref (G.1 84)), (1, .ref (G.1 4)), (2, .int w)] d_Passing_flashesTo_1 rfl (by decide) rfl ?_
  refine j_iconst (v := 0) hx d_Passing_flashesTo_2 (by decide) ?_
  refine j_istore hx [(4, .int 0), (3, .int 0), (0, .ref (G.1 84)), (1, .ref (G.1 4)), (2, .int w)] d_Passing_flashesTo_3 (by decide) rfl ?_
  have hl5 : ∀ (N9 : Nat) (i : Nat), (i ≤ (cl (lmi σ w))) → (cl (lmi σ w)) - i = N9 → J l G X 5 σ 5 [(0, .ref (G.1 84)), (1, .ref (G.1 4)), (2, .int w), (3, .int (sm (fun m => rg (σ 86) 12 (nI m)) i)), (4, .int (nI i))] [] := by
    intro N9
    induction N9 using Nat.strongRecOn with
    | _ N9 ih5 =>
      intro i hi_i hm5
      refine j_iload hx d_Passing_flashesTo_5 4 rfl ?_
      refine j_aload_n hx d_Passing_flashesTo_7 rfl 1 rfl ?_
      refine j_iload_n hx d_Passing_flashesTo_8 rfl 2 rfl ?_
      refine j_callSi hx (c_Passing_lastMinute hG σ w) mo_Passing_lastMinute t_1075 t_1074 (by decide) rfl rfl (Nat.le_of_ble_eq_true rfl) d_Passing_flashesTo_9 ?_
      refine j_icmp_gt (tgt := 33) hx d_Passing_flashesTo_12 (by decide) (fun zc12 => ?_) (fun zc12 => ?_)
      · skip
        obtain rfl := cl_end hi_i hw zc12
        refine j_iload_n hx d_Passing_flashesTo_33 rfl 3 rfl ?_
        exact j_iret hx hq rfl d_Passing_flashesTo_34 (by first | (first | rfl | (simp only [zc12]; done) | (simp [zc12]; done)) | fail) (by first | (first | rfl | (simp only [zc12]; done) | (simp [zc12]; done)) | fail)
      · skip
        have hlt5 := cl_go hi_i hw zc12
        refine j_iload_n hx d_Passing_flashesTo_15 rfl 3 rfl ?_
        refine j_aload_n hx d_Passing_flashesTo_16 rfl 0 rfl ?_
        refine j_get hx ck_Passing 0 (by decide) t_242 (by decide) (sh_84 _ _) rfl d_Passing_flashesTo_17 ?_
        refine j_iload hx d_Passing_flashesTo_20 4 rfl ?_
        refine j_callVi hx (c_Row_getA hG ir_85 86 rfl σ (nI i)) mo_Row_get mv_Row_get t_449 (by decide) rfl (by decide) (sh_85 _ _) rfl rfl (Nat.le_of_ble_eq_true rfl) d_Passing_flashesTo_22 ?_
        refine j_iadd hx d_Passing_flashesTo_25 ?_
        refine j_istore_n hx [(3, .int ((sm (fun m => rg (σ 86) 12 (nI m)) i) + (rg (σ (85 + 1)) 12 (nI i)))), (0, .ref (G.1 84)), (1, .ref (G.1 4)), (2, .int w), (4, .int (nI i))] d_Passing_flashesTo_26 rfl (by decide) rfl ?_
        refine j_iinc hx [(4, .int ((nI i) + 1)), (3, .int ((sm (fun m => rg (σ 86) 12 (nI m)) i) + (rg (σ (85 + 1)) 12 (nI i)))), (0, .ref (G.1 84)), (1, .ref (G.1 4)), (2, .int w)] d_Passing_flashesTo_27 4 rfl rfl (by decide) rfl ?_
        refine j_goto (tgt := 5) hx d_Passing_flashesTo_30 (by decide) ?_
        refine J.lsub (ls' := [(0, .ref (G.1 84)), (1, .ref (G.1 4)), (2, .int w), (3, .int ((sm (fun m => rg (σ 86) 12 (nI m)) i) + (rg (σ (85 + 1)) 12 (nI i)))), (4, .int ((nI i) + 1))]) [2, 3, 4, 1, 0] rfl ?_
        refine J.to ?_ ?_ (ih5 _ ?_ (i + 1) hlt5 rfl)
        · first | (first | rfl | (simp [zc12]; done)) | fail
        · first | (simp only [nI_s, sm_s]) | fail
        · first | (omega) | fail
  refine J.lsub (ls' := [(0, .ref (G.1 84)), (1, .ref (G.1 4)), (2, .int w), (3, .int 0), (4, .int 0)]) [2, 3, 4, 1, 0] rfl ?_
  refine J.to ?_ ?_ (hl5 _ 0 (Nat.zero_le _) rfl)
  · first | (first | rfl | (simp []; done)) | fail
  · first | (first | rfl | (simp only [nI_s]; done) | (simp only [nI_s, it_s]; done) | (simp [nI_s, it_s, ]; done)) | fail

set_option maxRecDepth 20000 in
set_option maxHeartbeats 4000000 in
theorem c_Passing_firstBlind {l : Launch} {G : Gz} (hG : zI G) (σ : St) (w : Int32) (hw : (lmi σ w).toInt < 1000) : MI l G y_Passing_firstBlind prog_7_method_10_code 4 .int 3 [.ref (G.1 84), .ref (G.1 4), .int w] σ (fbl σ (cl (lmi σ w))) σ := by
  refine MI.of hG (by decide) (Nat.le_of_ble_eq_true rfl) (fun X hx hq => ?_)
  show J l G X 4 σ 0 [(0, .ref (G.1 84)), (1, .ref (G.1 4)), (2, .int w)] []
  refine j_iconst (v := 0) hx d_Passing_firstBlind_0 (by decide) ?_
  refine j_istore_n hx [(3, .int 0), (0, .ref (G.1 84)), (1, .ref (G.1 4)), (2, .int w)] d_Passing_firstBlind_1 rfl (by decide) rfl ?_
  have hl2 : ∀ (N9 : Nat) (i : Nat), (i ≤ cl (lmi σ w)) → (fnd (fun m => if rg (σ 86) 12 (nI m) = 0 then some (nI m) else none) i = none) → (cl (lmi σ w)) - i = N9 → J l G X 4 σ 2 [(0, .ref (G.1 84)), (1, .ref (G.1 4)), (2, .int w), (3, .int (nI i))] [] := by
    intro N9
    induction N9 using Nat.strongRecOn with
    | _ N9 ih2 =>
      intro i hi_i hg hm2
      refine j_iload_n hx d_Passing_firstBlind_2 rfl 3 rfl ?_
      refine j_aload_n hx d_Passing_firstBlind_3 rfl 1 rfl ?_
      refine j_iload_n hx d_Passing_firstBlind_4 rfl 2 rfl ?_
      refine j_callSi hx (c_Passing_lastMinute hG σ w) mo_Passing_lastMinute t_1075 t_1074 (by decide) rfl rfl (Nat.le_of_ble_eq_true rfl) d_Passing_firstBlind_5 ?_
      refine j_icmp_gt (tgt := 30) hx d_Passing_firstBlind_8 (by decide) (fun zc8 => ?_) (fun zc8 => ?_)
      · skip
        obtain rfl := cl_end hi_i hw zc8
        refine j_iconst (v := (-1)) hx d_Passing_firstBlind_30 (by decide) ?_
        exact j_iret hx hq rfl d_Passing_firstBlind_31 (by first | (first | (unfold fbl; rw [hg]; rfl) | (unfold fbl; rw [fnd_at hg (if_pos zc19) hlt2]; rfl)) | fail) (by first | (first | rfl | (simp only [zc8]; done) | (simp [zc8]; done)) | fail)
      · skip
        have hlt2 := cl_go hi_i hw zc8
        refine j_aload_n hx d_Passing_firstBlind_11 rfl 0 rfl ?_
        refine j_get hx ck_Passing 0 (by decide) t_242 (by decide) (sh_84 _ _) rfl d_Passing_firstBlind_12 ?_
        refine j_iload_n hx d_Passing_firstBlind_15 rfl 3 rfl ?_
        refine j_callVi hx (c_Row_getA hG ir_85 86 rfl σ (nI i)) mo_Row_get mv_Row_get t_449 (by decide) rfl (by decide) (sh_85 _ _) rfl rfl (Nat.le_of_ble_eq_true rfl) d_Passing_firstBlind_16 ?_
        refine j_if_ne (tgt := 24) hx d_Passing_firstBlind_19 (by decide) (fun zc19 => ?_) (fun zc19 => ?_)
        · skip
          refine j_iinc hx [(3, .int ((nI i) + 1)), (0, .ref (G.1 84)), (1, .ref (G.1 4)), (2, .int w)] d_Passing_firstBlind_24 3 rfl rfl (by decide) rfl ?_
          refine j_goto (tgt := 2) hx d_Passing_firstBlind_27 (by decide) ?_
          refine J.lsub (ls' := [(0, .ref (G.1 84)), (1, .ref (G.1 4)), (2, .int w), (3, .int ((nI i) + 1))]) [1, 2, 3, 0] rfl ?_
          refine J.to ?_ ?_ (ih2 _ ?_ (i + 1) hlt2 ((fnd_s hg).trans (if_neg zc19)) rfl)
          · first | (first | rfl | (simp [zc8, zc19]; done)) | fail
          · first | (simp only [nI_s]) | fail
          · first | (omega) | fail
        · skip
          refine j_iload_n hx d_Passing_firstBlind_22 rfl 3 rfl ?_
          exact j_iret hx hq rfl d_Passing_firstBlind_23 (by first | (first | (unfold fbl; rw [hg]; rfl) | (unfold fbl; rw [fnd_at hg (if_pos zc19) hlt2]; rfl)) | fail) (by first | (first | rfl | (simp only [zc8, zc19]; done) | (simp [zc8, zc19]; done)) | fail)
  refine J.lsub (ls' := [(0, .ref (G.1 84)), (1, .ref (G.1 4)), (2, .int w), (3, .int 0)]) [1, 2, 3, 0] rfl ?_
  refine J.to ?_ ?_ (hl2 _ 0 (Nat.zero_le _) rfl rfl)
  · first | (first | rfl | (simp []; done)) | fail
  · first | (first | rfl | (simp only [nI_s]; done) | (simp only [nI_s, it_s]; done) | (simp [nI_s, it_s, ]; done)) | fail

