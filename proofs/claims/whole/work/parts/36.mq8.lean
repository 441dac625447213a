def mkV (t : St) : Int32 := (if b2 (mIs t (m6 3 5 12 12 0 0)) = 0 then (if b2 (mIs t (m6 12 9 7 8 20 0)) = 0 then (if b2 (mIs t (m6 4 15 14 11 5 25)) = 0 then (if b2 (mIs t (m6 19 8 9 16 0 0)) = 0 then (if b2 (mIs t (m6 4 15 15 18 0 0)) = 0 then (if b2 (mIs t (m6 19 9 7 8 20 0)) = 0 then -1 else 5) else 4) else 3) else 2) else 1) else 0)
def mzV (t : St) : Int32 := (if b2 (mIs t (m6 4 15 23 19 5 0)) = 0 then (if b2 (mIs t (m6 12 9 7 8 20 0)) = 0 then (if b2 (mIs t (m6 12 5 1 4 0 0)) = 0 then (if b2 (mIs t (m6 16 1 19 19 0 0)) = 0 then (if b2 (mIs t (m6 6 15 7 0 0 0)) = 0 then (if b2 (mIs t (m6 14 9 7 8 20 0)) = 0 then (if b2 (mIs t (m6 1 7 1 9 14 0)) = 0 then -1 else 6) else 5) else 4) else 3) else 2) else 1) else 0)
abbrev mDr (t : St) : Prop := t 111 5 = 0 ∧ nI (wlen (mbl t 111 2) (mbl t 112) (mbl t 111 4)) = 7 ∧ wrd (mbl t 111 2) (mbl t 112) (mbl t 111 4) (wlen (mbl t 111 2) (mbl t 112) (mbl t 111 4)) = m6 4 18 1 21 7 8 ∧ mbt (mbl t 111 2) (mbl t 112) (mbl t 111 4 + 6) = 116
def mqV (t : St) : Int32 := (if b2 (mIs t (m6 19 5 5 14 0 0)) = 0 then (if b2 (mIs t (m6 4 1 18 11 0 0)) = 0 then (if b2 (mIs t (m6 13 9 14 21 20 5)) = 0 then (if b2 (mIs t (m6 3 5 12 12 0 0)) = 0 then (if b2 (mIs t (m6 20 18 21 19 20 0)) = 0 then (if b2 (mDr t) = 0 then (if b2 (mIs t (m6 3 18 5 23 0 0)) = 0 then (if b2 (mIs t (m6 14 9 7 8 20 0)) = 0 then (if b2 (mIs t (m6 6 15 7 0 0 0)) = 0 then -1 else 8) else 7) else 6) else 5) else 4) else 3) else 2) else 1) else 0)
def mqS (t : St) : St := if mqV t = -1 then mbz t else msk (mbz t)
def mdrS (t : St) : St := if b2 (mDr t) = 0 then mbz t else msk (mbz t)
theorem mDr_z {t : St} : mDr (mbz t) ↔ mDr t := by
  unfold mDr
  rw [mbz_5]
  constructor
  · intro z
    have e : mbl (mbz t) = mbl t := by unfold mbz; rw [if_pos z.1, mbl_i]
    rw [e] at z; exact z
  · intro z
    have e : mbl (mbz t) = mbl t := by unfold mbz; rw [if_pos z.1, mbl_i]
    rw [e]; exact z
theorem mtk_0 {t : St} {c : Int32} (h : b2 (mIs t c) = 0) : mtk t c = mbz t := if_pos h
theorem mtk_1 {t : St} {c : Int32} (h : ¬ b2 (mIs t c) = 0) : mtk t c = msk (mbz t) := if_neg h
theorem mq_h {t : St} {v : Int32} (h : mqV t = v) (hv : ¬ v = -1) : mqS t = msk (mbz t) := if_neg (by rw [h]; exact hv)
theorem mq_n {t : St} (h : mqV t = -1) : mqS t = mbz t := if_pos h
theorem b2_mIs {t : St} {c : Int32} : b2 (mIs (mbz t) c) = b2 (mIs t c) := b2_congr mIs_z
theorem b2_mDr {t : St} : b2 (mDr (mbz t)) = b2 (mDr t) := b2_congr mDr_z

def mnt (t : St) (what v : Int32) : St := if t 111 5 = 0 then up (up (up t (327 + (t 111 24).toInt.toNat) 0 what) (327 + (t 111 24).toInt.toNat) 1 v) 111 24 (t 111 24 + 1) else t
def mop (t : St) : St := if t 111 5 = 0 ∧ t 111 8 = 6 then wr t 3 (t 111 4) else if t 111 5 = 0 then up t 111 8 (t 111 8 + 1) else t
def mo9 (k : Int32) : Int32 := if k = 0 then 12 else if k = 1 then 6 else if k = 2 then 3 else if k = 3 then 6 else 6

set_option maxRecDepth 20000 in
set_option maxHeartbeats 600000 in
theorem c_Mo_kindHere {l : Launch} {G : Gz} (hG : zI G) (σ : St) (hp : pB σ) : MI l G y_Mo_kindHere prog_14_method_25_code 1 .int 5 [.ref (G.1 111)] σ (mkV σ) (mbz σ) := by
  refine MI.of hG (by decide) (Nat.le_of_ble_eq_true rfl) (fun X hx hq => ?_)
  show J l G X 1 σ 0 [(0, .ref (G.1 111))] []
  refine j_aload_n hx d_Mo_kindHere_0 rfl 0 rfl ?_
  refine j_iconst (v := 3) hx d_Mo_kindHere_1 (by decide) ?_
  refine j_iconst (v := 5) hx d_Mo_kindHere_2 (by decide) ?_
  refine j_bipush (v := 12) hx d_Mo_kindHere_3 (by decide) ?_
  refine j_bipush (v := 12) hx d_Mo_kindHere_5 (by decide) ?_
  refine j_iconst (v := 0) hx d_Mo_kindHere_7 (by decide) ?_
  refine j_iconst (v := 0) hx d_Mo_kindHere_8 (by decide) ?_
  refine j_callVi hx (c_Mo_isWord hG σ 3 5 12 12 0 0 (by exact hp)) mo_Mo_isWord mv_Mo_isWord t_1608 (by decide) rfl (by decide) (sh_111 _ _) rfl rfl (Nat.le_of_ble_eq_true rfl) d_Mo_kindHere_9 ?_
  obtain ⟨s9_1, eg_1⟩ : ∃ z : St, z = mbz σ := ⟨_, rfl⟩
  refine J.to (σ' := s9_1) (by rw [eg_1]; first | done | rfl) rfl ?_
  refine j_if_eq (tgt := 17) hx d_Mo_kindHere_12 (by decide) (fun zc12 => ?_) (fun zc12 => ?_)
  · skip
    refine j_aload_n hx d_Mo_kindHere_17 rfl 0 rfl ?_
    refine j_bipush (v := 12) hx d_Mo_kindHere_18 (by decide) ?_
    refine j_bipush (v := 9) hx d_Mo_kindHere_20 (by decide) ?_
    refine j_bipush (v := 7) hx d_Mo_kindHere_22 (by decide) ?_
    refine j_bipush (v := 8) hx d_Mo_kindHere_24 (by decide) ?_
    refine j_bipush (v := 20) hx d_Mo_kindHere_26 (by decide) ?_
    refine j_iconst (v := 0) hx d_Mo_kindHere_28 (by decide) ?_
    refine j_callVi hx (c_Mo_isWord hG s9_1 12 9 7 8 20 0 (by rw [eg_1]; exact mbz_p hp)) mo_Mo_isWord mv_Mo_isWord t_1608 (by decide) rfl (by decide) (sh_111 _ _) rfl rfl (Nat.le_of_ble_eq_true rfl) d_Mo_kindHere_29 ?_
    obtain ⟨s9_2, eg_2⟩ : ∃ z : St, z = mbz σ := ⟨_, rfl⟩
    refine J.to (σ' := s9_2) (by rw [eg_2]; rw [eg_1]; exact mbz_i) rfl ?_
    refine j_if_eq (tgt := 37) hx d_Mo_kindHere_32 (by decide) (fun zc32 => ?_) (fun zc32 => ?_)
    · skip
      rw [eg_1, b2_mIs] at zc32
      refine j_aload_n hx d_Mo_kindHere_37 rfl 0 rfl ?_
      refine j_iconst (v := 4) hx d_Mo_kindHere_38 (by decide) ?_
      refine j_bipush (v := 15) hx d_Mo_kindHere_39 (by decide) ?_
      refine j_bipush (v := 14) hx d_Mo_kindHere_41 (by decide) ?_
      refine j_bipush (v := 11) hx d_Mo_kindHere_43 (by decide) ?_
      refine j_iconst (v := 5) hx d_Mo_kindHere_45 (by decide) ?_
      refine j_bipush (v := 25) hx d_Mo_kindHere_46 (by decide) ?_
      refine j_callVi hx (c_Mo_isWord hG s9_2 4 15 14 11 5 25 (by rw [eg_2]; exact mbz_p hp)) mo_Mo_isWord mv_Mo_isWord t_1608 (by decide) rfl (by decide) (sh_111 _ _) rfl rfl (Nat.le_of_ble_eq_true rfl) d_Mo_kindHere_48 ?_
      obtain ⟨s9_3, eg_3⟩ : ∃ z : St, z = mbz σ := ⟨_, rfl⟩
      refine J.to (σ' := s9_3) (by rw [eg_3]; rw [eg_2]; exact mbz_i) rfl ?_
      refine j_if_eq (tgt := 56) hx d_Mo_kindHere_51 (by decide) (fun zc51 => ?_) (fun zc51 => ?_)
      · skip
        rw [eg_2, b2_mIs] at zc51
        refine j_aload_n hx d_Mo_kindHere_56 rfl 0 rfl ?_
        refine j_bipush (v := 19) hx d_Mo_kindHere_57 (by decide) ?_
        refine j_bipush (v := 8) hx d_Mo_kindHere_59 (by decide) ?_
        refine j_bipush (v := 9) hx d_Mo_kindHere_61 (by decide) ?_
        refine j_bipush (v := 16) hx d_Mo_kindHere_63 (by decide) ?_
        refine j_iconst (v := 0) hx d_Mo_kindHere_65 (by decide) ?_
        refine j_iconst (v := 0) hx d_Mo_kindHere_66 (by decide) ?_
        refine j_callVi hx (c_Mo_isWord hG s9_3 19 8 9 16 0 0 (by rw [eg_3]; exact mbz_p hp)) mo_Mo_isWord mv_Mo_isWord t_1608 (by decide) rfl (by decide) (sh_111 _ _) rfl rfl (Nat.le_of_ble_eq_true rfl) d_Mo_kindHere_67 ?_
        obtain ⟨s9_4, eg_4⟩ : ∃ z : St, z = mbz σ := ⟨_, rfl⟩
        refine J.to (σ' := s9_4) (by rw [eg_4]; rw [eg_3]; exact mbz_i) rfl ?_
        refine j_if_eq (tgt := 75) hx d_Mo_kindHere_70 (by decide) (fun zc70 => ?_) (fun zc70 => ?_)
        · skip
          rw [eg_3, b2_mIs] at zc70
          refine j_aload_n hx d_Mo_kindHere_75 rfl 0 rfl ?_
          refine j_iconst (v := 4) hx d_Mo_kindHere_76 (by decide) ?_
          refine j_bipush (v := 15) hx d_Mo_kindHere_77 (by decide) ?_
          refine j_bipush (v := 15) hx d_Mo_kindHere_79 (by decide) ?_
          refine j_bipush (v := 18) hx d_Mo_kindHere_81 (by decide) ?_
          refine j_iconst (v := 0) hx d_Mo_kindHere_83 (by decide) ?_
          refine j_iconst (v := 0) hx d_Mo_kindHere_84 (by decide) ?_
          refine j_callVi hx (c_Mo_isWord hG s9_4 4 15 15 18 0 0 (by rw [eg_4]; exact mbz_p hp)) mo_Mo_isWord mv_Mo_isWord t_1608 (by decide) rfl (by decide) (sh_111 _ _) rfl rfl (Nat.le_of_ble_eq_true rfl) d_Mo_kindHere_85 ?_
          obtain ⟨s9_5, eg_5⟩ : ∃ z : St, z = mbz σ := ⟨_, rfl⟩
          refine J.to (σ' := s9_5) (by rw [eg_5]; rw [eg_4]; exact mbz_i) rfl ?_
          refine j_if_eq (tgt := 93) hx d_Mo_kindHere_88 (by decide) (fun zc88 => ?_) (fun zc88 => ?_)
          · skip
            rw [eg_4, b2_mIs] at zc88
            refine j_aload_n hx d_Mo_kindHere_93 rfl 0 rfl ?_
            refine j_bipush (v := 19) hx d_Mo_kindHere_94 (by decide) ?_
            refine j_bipush (v := 9) hx d_Mo_kindHere_96 (by decide) ?_
            refine j_bipush (v := 7) hx d_Mo_kindHere_98 (by decide) ?_
            refine j_bipush (v := 8) hx d_Mo_kindHere_100 (by decide) ?_
            refine j_bipush (v := 20) hx d_Mo_kindHere_102 (by decide) ?_
            refine j_iconst (v := 0) hx d_Mo_kindHere_104 (by decide) ?_
            refine j_callVi hx (c_Mo_isWord hG s9_5 19 9 7 8 20 0 (by rw [eg_5]; exact mbz_p hp)) mo_Mo_isWord mv_Mo_isWord t_1608 (by decide) rfl (by decide) (sh_111 _ _) rfl rfl (Nat.le_of_ble_eq_true rfl) d_Mo_kindHere_105 ?_
            obtain ⟨s9_6, eg_6⟩ : ∃ z : St, z = mbz σ := ⟨_, rfl⟩
            refine J.to (σ' := s9_6) (by rw [eg_6]; rw [eg_5]; exact mbz_i) rfl ?_
            refine j_if_eq (tgt := 115) hx d_Mo_kindHere_108 (by decide) (fun zc108 => ?_) (fun zc108 => ?_)
            · skip
              rw [eg_5, b2_mIs] at zc108
              refine j_iconst (v := (-1)) hx d_Mo_kindHere_115 (by decide) ?_
              exact j_iret hx hq rfl d_Mo_kindHere_116 (by first | (first | (unfold mkV; rw [if_pos zc12, if_pos zc32, if_pos zc51, if_pos zc70, if_pos zc88, if_neg zc108]; done) | (unfold mkV; rw [if_pos zc12, if_pos zc32, if_pos zc51, if_pos zc70, if_pos zc88, if_pos zc108]; done)) | fail) (by first | (first | exact eg_6 | exact eg_5 | exact eg_4 | exact eg_3 | exact eg_2 | exact eg_1) | fail)
            · skip
              rw [eg_5, b2_mIs] at zc108
              refine j_iconst (v := 5) hx d_Mo_kindHere_111 (by decide) ?_
              refine j_goto (tgt := 116) hx d_Mo_kindHere_112 (by decide) ?_
              exact j_iret hx hq rfl d_Mo_kindHere_116 (by first | (first | (unfold mkV; rw [if_pos zc12, if_pos zc32, if_pos zc51, if_pos zc70, if_pos zc88, if_neg zc108]; done) | (unfold mkV; rw [if_pos zc12, if_pos zc32, if_pos zc51, if_pos zc70, if_pos zc88, if_pos zc108]; done)) | fail) (by first | (first | exact eg_6 | exact eg_5 | exact eg_4 | exact eg_3 | exact eg_2 | exact eg_1) | fail)
          · skip
            rw [eg_4, b2_mIs] at zc88
            refine j_iconst (v := 4) hx d_Mo_kindHere_91 (by decide) ?_
            exact j_iret hx hq rfl d_Mo_kindHere_92 (by first | (first | (unfold mkV; rw [if_pos zc12, if_pos zc32, if_pos zc51, if_pos zc70, if_neg zc88]; done)) | fail) (by first | (first | exact eg_6 | exact eg_5 | exact eg_4 | exact eg_3 | exact eg_2 | exact eg_1) | fail)
        · skip
          rw [eg_3, b2_mIs] at zc70
          refine j_iconst (v := 3) hx d_Mo_kindHere_73 (by decide) ?_
          exact j_iret hx hq rfl d_Mo_kindHere_74 (by first | (first | (unfold mkV; rw [if_pos zc12, if_pos zc32, if_pos zc51, if_neg zc70]; done)) | fail) (by first | (first | exact eg_6 | exact eg_5 | exact eg_4 | exact eg_3 | exact eg_2 | exact eg_1) | fail)
      · skip
        rw [eg_2, b2_mIs] at zc51
        refine j_iconst (v := 2) hx d_Mo_kindHere_54 (by decide) ?_
        exact j_iret hx hq rfl d_Mo_kindHere_55 (by first | (first | (unfold mkV; rw [if_pos zc12, if_pos zc32, if_neg zc51]; done)) | fail) (by first | (first | exact eg_6 | exact eg_5 | exact eg_4 | exact eg_3 | exact eg_2 | exact eg_1) | fail)
    · skip
      rw [eg_1, b2_mIs] at zc32
      refine j_iconst (v := 1) hx d_Mo_kindHere_35 (by decide) ?_
      exact j_iret hx hq rfl d_Mo_kindHere_36 (by first | (first | (unfold mkV; rw [if_pos zc12, if_neg zc32]; done)) | fail) (by first | (first | exact eg_6 | exact eg_5 | exact eg_4 | exact eg_3 | exact eg_2 | exact eg_1) | fail)
  · skip
    refine j_iconst (v := 0) hx d_Mo_kindHere_15 (by decide) ?_
    exact j_iret hx hq rfl d_Mo_kindHere_16 (by first | (first | (unfold mkV; rw [if_neg zc12]; done)) | fail) (by first | (first | exact eg_6 | exact eg_5 | exact eg_4 | exact eg_3 | exact eg_2 | exact eg_1) | fail)

set_option maxRecDepth 20000 in
set_option maxHeartbeats 600000 in
theorem c_Mo_stepHere {l : Launch} {G : Gz} (hG : zI G) (σ : St) (hp : pB σ) : MI l G y_Mo_stepHere prog_14_method_42_code 1 .int 5 [.ref (G.1 111)] σ (mzV σ) (mbz σ) := by
  refine MI.of hG (by decide) (Nat.le_of_ble_eq_true rfl) (fun X hx hq => ?_)
  show J l G X 1 σ 0 [(0, .ref (G.1 111))] []
  refine j_aload_n hx d_Mo_stepHere_0 rfl 0 rfl ?_
  refine j_iconst (v := 4) hx d_Mo_stepHere_1 (by decide) ?_
  refine j_bipush (v := 15) hx d_Mo_stepHere_2 (by decide) ?_
  refine j_bipush (v := 23) hx d_Mo_stepHere_4 (by decide) ?_
  refine j_bipush (v := 19) hx d_Mo_stepHere_6 (by decide) ?_
  refine j_iconst (v := 5) hx d_Mo_stepHere_8 (by decide) ?_
  refine j_iconst (v := 0) hx d_Mo_stepHere_9 (by decide) ?_
  refine j_callVi hx (c_Mo_isWord hG σ 4 15 23 19 5 0 (by exact hp)) mo_Mo_isWord mv_Mo_isWord t_1608 (by decide) rfl (by decide) (sh_111 _ _) rfl rfl (Nat.le_of_ble_eq_true rfl) d_Mo_stepHere_10 ?_
  obtain ⟨s9_1, eg_1⟩ : ∃ z : St, z = mbz σ := ⟨_, rfl⟩
  refine J.to (σ' := s9_1) (by rw [eg_1]; first | done | rfl) rfl ?_
  refine j_if_eq (tgt := 18) hx d_Mo_stepHere_13 (by decide) (fun zc13 => ?_) (fun zc13 => ?_)
  · skip
    refine j_aload_n hx d_Mo_stepHere_18 rfl 0 rfl ?_
    refine j_bipush (v := 12) hx d_Mo_stepHere_19 (by decide) ?_
    refine j_bipush (v := 9) hx d_Mo_stepHere_21 (by decide) ?_
    refine j_bipush (v := 7) hx d_Mo_stepHere_23 (by decide) ?_
    refine j_bipush (v := 8) hx d_Mo_stepHere_25 (by decide) ?_
    refine j_bipush (v := 20) hx d_Mo_stepHere_27 (by decide) ?_
    refine j_iconst (v := 0) hx d_Mo_stepHere_29 (by decide) ?_
    refine j_callVi hx (c_Mo_isWord hG s9_1 12 9 7 8 20 0 (by rw [eg_1]; exact mbz_p hp)) mo_Mo_isWord mv_Mo_isWord t_1608 (by decide) rfl (by decide) (sh_111 _ _) rfl rfl (Nat.le_of_ble_eq_true rfl) d_Mo_stepHere_30 ?_
    obtain ⟨s9_2, eg_2⟩ : ∃ z : St, z = mbz σ := ⟨_, rfl⟩
    refine J.to (σ' := s9_2) (by rw [eg_2]; rw [eg_1]; exact mbz_i) rfl ?_
    refine j_if_eq (tgt := 38) hx d_Mo_stepHere_33 (by decide) (fun zc33 => ?_) (fun zc33 => ?_)
    · skip
      rw [eg_1, b2_mIs] at zc33
      refine j_aload_n hx d_Mo_stepHere_38 rfl 0 rfl ?_
      refine j_bipush (v := 12) hx d_Mo_stepHere_39 (by decide) ?_
      refine j_iconst (v := 5) hx d_Mo_stepHere_41 (by decide) ?_
      refine j_iconst (v := 1) hx d_Mo_stepHere_42 (by decide) ?_
      refine j_iconst (v := 4) hx d_Mo_stepHere_43 (by decide) ?_
      refine j_iconst (v := 0) hx d_Mo_stepHere_44 (by decide) ?_
      refine j_iconst (v := 0) hx d_Mo_stepHere_45 (by decide) ?_
      refine j_callVi hx (c_Mo_isWord hG s9_2 12 5 1 4 0 0 (by rw [eg_2]; exact mbz_p hp)) mo_Mo_isWord mv_Mo_isWord t_1608 (by decide) rfl (by decide) (sh_111 _ _) rfl rfl (Nat.le_of_ble_eq_true rfl) d_Mo_stepHere_46 ?_
      obtain ⟨s9_3, eg_3⟩ : ∃ z : St, z = mbz σ := ⟨_, rfl⟩
      refine J.to (σ' := s9_3) (by rw [eg_3]; rw [eg_2]; exact mbz_i) rfl ?_
      refine j_if_eq (tgt := 54) hx d_Mo_stepHere_49 (by decide) (fun zc49 => ?_) (fun zc49 => ?_)
      · skip
        rw [eg_2, b2_mIs] at zc49
        refine j_aload_n hx d_Mo_stepHere_54 rfl 0 rfl ?_
        refine j_bipush (v := 16) hx d_Mo_stepHere_55 (by decide) ?_
        refine j_iconst (v := 1) hx d_Mo_stepHere_57 (by decide) ?_
        refine j_bipush (v := 19) hx d_Mo_stepHere_58 (by decide) ?_
        refine j_bipush (v := 19) hx d_Mo_stepHere_60 (by decide) ?_
        refine j_iconst (v := 0) hx d_Mo_stepHere_62 (by decide) ?_
        refine j_iconst (v := 0) hx d_Mo_stepHere_63 (by decide) ?_
        refine j_callVi hx (c_Mo_isWord hG s9_3 16 1 19 19 0 0 (by rw [eg_3]; exact mbz_p hp)) mo_Mo_isWord mv_Mo_isWord t_1608 (by decide) rfl (by decide) (sh_111 _ _) rfl rfl (Nat.le_of_ble_eq_true rfl) d_Mo_stepHere_64 ?_
        obtain ⟨s9_4, eg_4⟩ : ∃ z : St, z = mbz σ := ⟨_, rfl⟩
        refine J.to (σ' := s9_4) (by rw [eg_4]; rw [eg_3]; exact mbz_i) rfl ?_
        refine j_if_eq (tgt := 72) hx d_Mo_stepHere_67 (by decide) (fun zc67 => ?_) (fun zc67 => ?_)
        · skip
          rw [eg_3, b2_mIs] at zc67
          refine j_aload_n hx d_Mo_stepHere_72 rfl 0 rfl ?_
          refine j_bipush (v := 6) hx d_Mo_stepHere_73 (by decide) ?_
          refine j_bipush (v := 15) hx d_Mo_stepHere_75 (by decide) ?_
          refine j_bipush (v := 7) hx d_Mo_stepHere_77 (by decide) ?_
          refine j_iconst (v := 0) hx d_Mo_stepHere_79 (by decide) ?_
          refine j_iconst (v := 0) hx d_Mo_stepHere_80 (by decide) ?_
          refine j_iconst (v := 0) hx d_Mo_stepHere_81 (by decide) ?_
          refine j_callVi hx (c_Mo_isWord hG s9_4 6 15 7 0 0 0 (by rw [eg_4]; exact mbz_p hp)) mo_Mo_isWord mv_Mo_isWord t_1608 (by decide) rfl (by decide) (sh_111 _ _) rfl rfl (Nat.le_of_ble_eq_true rfl) d_Mo_stepHere_82 ?_
          obtain ⟨s9_5, eg_5⟩ : ∃ z : St, z = mbz σ := ⟨_, rfl⟩
          refine J.to (σ' := s9_5) (by rw [eg_5]; rw [eg_4]; exact mbz_i) rfl ?_
          refine j_if_eq (tgt := 90) hx d_Mo_stepHere_85 (by decide) (fun zc85 => ?_) (fun zc85 => ?_)
          · skip
            rw [eg_4, b2_mIs] at zc85
            refine j_aload_n hx d_Mo_stepHere_90 rfl 0 rfl ?_
            refine j_bipush (v := 14) hx d_Mo_stepHere_91 (by decide) ?_
            refine j_bipush (v := 9) hx d_Mo_stepHere_93 (by decide) ?_
            refine j_bipush (v := 7) hx d_Mo_stepHere_95 (by decide) ?_
            refine j_bipush (v := 8) hx d_Mo_stepHere_97 (by decide) ?_
            refine j_bipush (v := 20) hx d_Mo_stepHere_99 (by decide) ?_
            refine j_iconst (v := 0) hx d_Mo_stepHere_101 (by decide) ?_
            refine j_callVi hx (c_Mo_isWord hG s9_5 14 9 7 8 20 0 (by rw [eg_5]; exact mbz_p hp)) mo_Mo_isWord mv_Mo_isWord t_1608 (by decide) rfl (by decide) (sh_111 _ _) rfl rfl (Nat.le_of_ble_eq_true rfl) d_Mo_stepHere_102 ?_
            obtain ⟨s9_6, eg_6⟩ : ∃ z : St, z = mbz σ := ⟨_, rfl⟩
            refine J.to (σ' := s9_6) (by rw [eg_6]; rw [eg_5]; exact mbz_i) rfl ?_
            refine j_if_eq (tgt := 110) hx d_Mo_stepHere_105 (by decide) (fun zc105 => ?_) (fun zc105 => ?_)
            · skip
              rw [eg_5, b2_mIs] at zc105
              refine j_aload_n hx d_Mo_stepHere_110 rfl 0 rfl ?_
              refine j_iconst (v := 1) hx d_Mo_stepHere_111 (by decide) ?_
              refine j_bipush (v := 7) hx d_Mo_stepHere_112 (by decide) ?_
              refine j_iconst (v := 1) hx d_Mo_stepHere_114 (by decide) ?_
              refine j_bipush (v := 9) hx d_Mo_stepHere_115 (by decide) ?_
              refine j_bipush (v := 14) hx d_Mo_stepHere_117 (by decide) ?_
              refine j_iconst (v := 0) hx d_Mo_stepHere_119 (by decide) ?_
              refine j_callVi hx (c_Mo_isWord hG s9_6 1 7 1 9 14 0 (by rw [eg_6]; exact mbz_p hp)) mo_Mo_isWord mv_Mo_isWord t_1608 (by decide) rfl (by decide) (sh_111 _ _) rfl rfl (Nat.le_of_ble_eq_true rfl) d_Mo_stepHere_120 ?_
              obtain ⟨s9_7, eg_7⟩ : ∃ z : St, z = mbz σ := ⟨_, rfl⟩
              refine J.to (σ' := s9_7) (by rw [eg_7]; rw [eg_6]; exact mbz_i) rfl ?_
              refine j_if_eq (tgt := 131) hx d_Mo_stepHere_123 (by decide) (fun zc123 => ?_) (fun zc123 => ?_)
              · skip
                rw [eg_6, b2_mIs] at zc123
                refine j_iconst (v := (-1)) hx d_Mo_stepHere_131 (by decide) ?_
                exact j_iret hx hq rfl d_Mo_stepHere_132 (by first | (first | (unfold mzV; rw [if_pos zc13, if_pos zc33, if_pos zc49, if_pos zc67, if_pos zc85, if_pos zc105, if_neg zc123]; done) | (unfold mzV; rw [if_pos zc13, if_pos zc33, if_pos zc49, if_pos zc67, if_pos zc85, if_pos zc105, if_pos zc123]; done)) | fail) (by first | (first | exact eg_7 | exact eg_6 | exact eg_5 | exact eg_4 | exact eg_3 | exact eg_2 | exact eg_1) | fail)
              · skip
                rw [eg_6, b2_mIs] at zc123
                refine j_bipush (v := 6) hx d_Mo_stepHere_126 (by decide) ?_
                refine j_goto (tgt := 132) hx d_Mo_stepHere_128 (by decide) ?_
                exact j_iret hx hq rfl d_Mo_stepHere_132 (by first | (first | (unfold mzV; rw [if_pos zc13, if_pos zc33, if_pos zc49, if_pos zc67, if_pos zc85, if_pos zc105, if_neg zc123]; done) | (unfold mzV; rw [if_pos zc13, if_pos zc33, if_pos zc49, if_pos zc67, if_pos zc85, if_pos zc105, if_pos zc123]; done)) | fail) (by first | (first | exact eg_7 | exact eg_6 | exact eg_5 | exact eg_4 | exact eg_3 | exact eg_2 | exact eg_1) | fail)
            · skip
              rw [eg_5, b2_mIs] at zc105
              refine j_iconst (v := 5) hx d_Mo_stepHere_108 (by decide) ?_
              exact j_iret hx hq rfl d_Mo_stepHere_109 (by first | (first | (unfold mzV; rw [if_pos zc13, if_pos zc33, if_pos zc49, if_pos zc67, if_pos zc85, if_neg zc105]; done)) | fail) (by first | (first | exact eg_7 | exact eg_6 | exact eg_5 | exact eg_4 | exact eg_3 | exact eg_2 | exact eg_1) | fail)
          · skip
            rw [eg_4, b2_mIs] at zc85
            refine j_iconst (v := 4) hx d_Mo_stepHere_88 (by decide) ?_
            exact j_iret hx hq rfl d_Mo_stepHere_89 (by first | (first | (unfold mzV; rw [if_pos zc13, if_pos zc33, if_pos zc49, if_pos zc67, if_neg zc85]; done)) | fail) (by first | (first | exact eg_7 | exact eg_6 | exact eg_5 | exact eg_4 | exact eg_3 | exact eg_2 | exact eg_1) | fail)
        · skip
          rw [eg_3, b2_mIs] at zc67
          refine j_iconst (v := 3) hx d_Mo_stepHere_70 (by decide) ?_
          exact j_iret hx hq rfl d_Mo_stepHere_71 (by first | (first | (unfold mzV; rw [if_pos zc13, if_pos zc33, if_pos zc49, if_neg zc67]; done)) | fail) (by first | (first | exact eg_7 | exact eg_6 | exact eg_5 | exact eg_4 | exact eg_3 | exact eg_2 | exact eg_1) | fail)
      · skip
        rw [eg_2, b2_mIs] at zc49
        refine j_iconst (v := 2) hx d_Mo_stepHere_52 (by decide) ?_
        exact j_iret hx hq rfl d_Mo_stepHere_53 (by first | (first | (unfold mzV; rw [if_pos zc13, if_pos zc33, if_neg zc49]; done)) | fail) (by first | (first | exact eg_7 | exact eg_6 | exact eg_5 | exact eg_4 | exact eg_3 | exact eg_2 | exact eg_1) | fail)
    · skip
      rw [eg_1, b2_mIs] at zc33
      refine j_iconst (v := 1) hx d_Mo_stepHere_36 (by decide) ?_
      exact j_iret hx hq rfl d_Mo_stepHere_37 (by first | (first | (unfold mzV; rw [if_pos zc13, if_neg zc33]; done)) | fail) (by first | (first | exact eg_7 | exact eg_6 | exact eg_5 | exact eg_4 | exact eg_3 | exact eg_2 | exact eg_1) | fail)
  · skip
    refine j_iconst (v := 0) hx d_Mo_stepHere_16 (by decide) ?_
    exact j_iret hx hq rfl d_Mo_stepHere_17 (by first | (first | (unfold mzV; rw [if_neg zc13]; done)) | fail) (by first | (first | exact eg_7 | exact eg_6 | exact eg_5 | exact eg_4 | exact eg_3 | exact eg_2 | exact eg_1) | fail)

set_option maxRecDepth 20000 in
set_option maxHeartbeats 600000 in
theorem c_Mo_mostOf {l : Launch} {G : Gz} (hG : zI G) (σ : St) (k9 : Int32) : MI l G y_Mo_mostOf prog_14_method_26_code 1 .int 1 [.int k9] σ (mo9 k9) σ := by
  refine MI.of hG (by decide) (Nat.le_of_ble_eq_true rfl) (fun X hx hq => ?_)
  show J l G X 1 σ 0 [(0, .int k9)] []
  refine j_iload_n hx d_Mo_mostOf_0 rfl 0 rfl ?_
  refine J.sw (x := k9) 0 (fun zc1_0 => ?_) (fun zc1_0 => ?_)
  · skip
    refine j_tableIn (x := k9) (tgt := 32) (off := 31) hx d_Mo_mostOf_1 (by rw [zc1_0]; decide) (by rw [zc1_0]; decide) (by rw [zc1_0]; decide) (by decide) ?_
    refine j_bipush (v := 12) hx d_Mo_mostOf_32 (by decide) ?_
    exact j_iret hx hq rfl d_Mo_mostOf_34 (by first | (unfold mo9; simp [zc1_0]) | fail) (by first | (first | rfl | (simp only [zc1_0]; done) | (simp [zc1_0]; done)) | fail)
  refine J.sw (x := k9) 1 (fun zc1_1 => ?_) (fun zc1_1 => ?_)
  · skip
    refine j_tableIn (x := k9) (tgt := 35) (off := 34) hx d_Mo_mostOf_1 (by rw [zc1_1]; decide) (by rw [zc1_1]; decide) (by rw [zc1_1]; decide) (by decide) ?_
    refine j_bipush (v := 6) hx d_Mo_mostOf_35 (by decide) ?_
    exact j_iret hx hq rfl d_Mo_mostOf_37 (by first | (unfold mo9; simp [zc1_0, zc1_1]) | fail) (by first | (first | rfl | (simp only [zc1_0, zc1_1]; done) | (simp [zc1_0, zc1_1]; done)) | fail)
  refine J.sw (x := k9) 2 (fun zc1_2 => ?_) (fun zc1_2 => ?_)
  · skip
    refine j_tableIn (x := k9) (tgt := 38) (off := 37) hx d_Mo_mostOf_1 (by rw [zc1_2]; decide) (by rw [zc1_2]; decide) (by rw [zc1_2]; decide) (by decide) ?_
    refine j_iconst (v := 3) hx d_Mo_mostOf_38 (by decide) ?_
    exact j_iret hx hq rfl d_Mo_mostOf_39 (by first | (unfold mo9; simp [zc1_0, zc1_1, zc1_2]) | fail) (by first | (first | rfl | (simp only [zc1_0, zc1_1, zc1_2]; done) | (simp [zc1_0, zc1_1, zc1_2]; done)) | fail)
  refine J.sw (x := k9) 3 (fun zc1_3 => ?_) (fun zc1_3 => ?_)
  · skip
    refine j_tableIn (x := k9) (tgt := 40) (off := 39) hx d_Mo_mostOf_1 (by rw [zc1_3]; decide) (by rw [zc1_3]; decide) (by rw [zc1_3]; decide) (by decide) ?_
    refine j_bipush (v := 6) hx d_Mo_mostOf_40 (by decide) ?_
    exact j_iret hx hq rfl d_Mo_mostOf_42 (by first | (unfold mo9; simp [zc1_0, zc1_1, zc1_2, zc1_3]) | fail) (by first | (first | rfl | (simp only [zc1_0, zc1_1, zc1_2, zc1_3]; done) | (simp [zc1_0, zc1_1, zc1_2, zc1_3]; done)) | fail)
  refine j_tableOut (x := k9) (tgt := 43) hx d_Mo_mostOf_1 (by have h0 := sw_ne zc1_0; have h1 := sw_ne zc1_1; have h2 := sw_ne zc1_2; have h3 := sw_ne zc1_3; have q0 : Int32.toInt 0 = 0 := rfl; have q1 : Int32.toInt 1 = 1 := rfl; have q2 : Int32.toInt 2 = 2 := rfl; have q3 : Int32.toInt 3 = 3 := rfl; omega) (by decide) ?_
  refine j_bipush (v := 6) hx d_Mo_mostOf_43 (by decide) ?_
  exact j_iret hx hq rfl d_Mo_mostOf_45 (by first | (unfold mo9; simp [zc1_0, zc1_1, zc1_2, zc1_3]) | fail) (by first | (first | rfl | (simp only [zc1_0, zc1_1, zc1_2, zc1_3]; done) | (simp [zc1_0, zc1_1, zc1_2, zc1_3]; done)) | fail)

set_option maxRecDepth 20000 in
set_option maxHeartbeats 600000 in
theorem c_Mo_isDraught {l : Launch} {G : Gz} (hG : zI G) (σ : St) (hp : pB σ) : MI l G y_Mo_isDraught prog_14_method_37_code 4 .boolean 4 [.ref (G.1 111)] σ (b2 (mDr σ)) (mdrS σ) := by
  refine MI.of hG (by decide) (Nat.le_of_ble_eq_true rfl) (fun X hx hq => ?_)
  show J l G X 4 σ 0 [(0, .ref (G.1 111))] []
  refine j_aload_n hx d_Mo_isDraught_0 rfl 0 rfl ?_
  refine j_get hx ck_Mo 5 (by decide) t_1423 (by decide) (sh_111 _ _) rfl d_Mo_isDraught_1 ?_
  refine j_if_eq (tgt := 9) hx d_Mo_isDraught_4 (by decide) (fun zc4 => ?_) (fun zc4 => ?_)
  · skip
    refine j_aload_n hx d_Mo_isDraught_9 rfl 0 rfl ?_
    refine j_callVv hx (c_Mo_blanks hG σ (by exact hp)) mo_Mo_blanks mv_Mo_blanks t_1592 (by decide) rfl (by decide) (sh_111 _ _) rfl rfl (Nat.le_of_ble_eq_true rfl) d_Mo_isDraught_10 ?_
    refine j_iconst (v := 0) hx d_Mo_isDraught_13 (by decide) ?_
    refine j_istore_n hx [(1, .int 0), (0, .ref (G.1 111))] d_Mo_isDraught_14 rfl (by decide) rfl ?_
    refine j_iconst (v := 0) hx d_Mo_isDraught_15 (by decide) ?_
    refine j_istore_n hx [(2, .int 0), (1, .int 0), (0, .ref (G.1 111))] d_Mo_isDraught_16 rfl (by decide) rfl ?_
    have hl17 : ∀ (N9 : Nat) (i : Nat), (i ≤ wlen (mbl σ 111 2) (mbl σ 112) (mbl σ 111 4)) → wlen (mbl σ 111 2) (mbl σ 112) (mbl σ 111 4) - i = N9 → J l G X 4 (mbl σ) 17 [(0, .ref (G.1 111)), (1, .int (wrd (mbl σ 111 2) (mbl σ 112) (mbl σ 111 4) i)), (2, .int (nI i))] [] := by
      intro N9
      induction N9 using Nat.strongRecOn with
      | _ N9 ih17 =>
        intro i hi hm17
        have hpb := (mbl_p hp).1
        have hwl := wlen_le (f := mbl σ 112) hpb.2.1
        have ea : (mbl σ 111 4 + nI i).toInt = (mbl σ 111 4).toInt + i := i_add rfl (i_nI (by have := hpb.2.2; have := hpb.1; omega)) (by have := hpb.1; omega) (by have := hpb.2.2; omega)
        have hpb1 := hpb.1
        have hpb2 := hpb.2.2
        refine j_aload_n hx d_Mo_isDraught_17 rfl 0 rfl ?_
        refine j_aload_n hx d_Mo_isDraught_18 rfl 0 rfl ?_
        refine j_get hx ck_Mo 4 (by decide) t_1422 (by decide) (sh_111 _ _) rfl d_Mo_isDraught_19 ?_
        refine j_iload_n hx d_Mo_isDraught_22 rfl 2 rfl ?_
        refine j_iadd hx d_Mo_isDraught_23 ?_
        refine j_callVi hx (c_Mo_byteAt hG (mbl σ) (((mbl σ) 111 4) + (nI i)) (by rw [ea]; omega) (by exact hpb.2.2)) mo_Mo_byteAt mv_Mo_byteAt t_1596 (by decide) rfl (by decide) (sh_111 _ _) rfl rfl (Nat.le_of_ble_eq_true rfl) d_Mo_isDraught_24 ?_
        refine j_callSi hx (c_Mo_isSmall hG (mbl σ) (mbt ((mbl σ) 111 2) ((mbl σ) 112) (((mbl σ) 111 4) + (nI i)))) mo_Mo_isSmall t_1617 t_1616 (by decide) rfl rfl (Nat.le_of_ble_eq_true rfl) d_Mo_isDraught_27 ?_
        refine j_if_eq (tgt := 70) hx d_Mo_isDraught_30 (by decide) (fun zc30 => ?_) (fun zc30 => ?_)
        · skip
          have hL : i = wlen (mbl σ 111 2) (mbl σ 112) (mbl σ 111 4) := (by have h9 := mt (wlen_is hpb.1 hpb.2.1 hpb.2.2 hi).mpr (b2_z zc30); omega)
          subst hL
          refine j_iload_n hx d_Mo_isDraught_70 rfl 2 rfl ?_
          refine j_bipush (v := 7) hx d_Mo_isDraught_71 (by decide) ?_
          refine j_icmp_ne (tgt := 113) hx d_Mo_isDraught_73 (by decide) (fun zc73 => ?_) (fun zc73 => ?_)
          · skip
            refine j_iconst (v := 0) hx d_Mo_isDraught_113 (by decide) ?_
            refine j_istore_n hx [(3, .int 0), (0, .ref (G.1 111)), (1, .int (wrd (mbl σ 111 2) (mbl σ 112) (mbl σ 111 4) (wlen (mbl σ 111 2) (mbl σ 112) (mbl σ 111 4)))), (2, .int (nI (wlen (mbl σ 111 2) (mbl σ 112) (mbl σ 111 4))))] d_Mo_isDraught_114 rfl (by decide) rfl ?_
            refine j_iload_n hx d_Mo_isDraught_115 rfl 0 rfl ?_
            refine j_if_eq (tgt := 123) hx d_Mo_isDraught_116 (by decide) (fun _ => ?_) (fun zc116 => absurd (by decide) zc116)
            refine j_iload_n hx d_Mo_isDraught_123 rfl 0 rfl ?_
            exact j_iret hx hq rfl d_Mo_isDraught_124 (by first | (first | exact (b2_t (p := mDr σ) ⟨zc4, zc73, zc90, zc106⟩).symm | exact (b2_f (p := mDr σ) (fun z => zc106 z.2.2.2)).symm | exact (b2_f (p := mDr σ) (fun z => zc90 z.2.2.1)).symm | exact (b2_f (p := mDr σ) (fun z => zc73 z.2.1)).symm) | fail) (by first | (unfold mdrS mbz; first | (rw [if_neg (show ¬ b2 (mDr σ) = 0 from fun z => b2_z z ⟨zc4, zc73, zc90, zc106⟩), if_pos zc4]; done) | (rw [if_pos (b2_f (p := mDr σ) (fun z => zc106 z.2.2.2)), if_pos zc4]; done) | (rw [if_pos (b2_f (p := mDr σ) (fun z => zc90 z.2.2.1)), if_pos zc4]; done) | (rw [if_pos (b2_f (p := mDr σ) (fun z => zc73 z.2.1)), if_pos zc4]; done)) | fail)
          · skip
            refine j_iload_n hx d_Mo_isDraught_76 rfl 1 rfl ?_
            refine j_iconst (v := 4) hx d_Mo_isDraught_77 (by decide) ?_
            refine j_bipush (v := 18) hx d_Mo_isDraught_78 (by decide) ?_
            refine j_iconst (v := 1) hx d_Mo_isDraught_80 (by decide) ?_
            refine j_bipush (v := 21) hx d_Mo_isDraught_81 (by decide) ?_
            refine j_bipush (v := 7) hx d_Mo_isDraught_83 (by decide) ?_
            refine j_bipush (v := 8) hx d_Mo_isDraught_85 (by decide) ?_
            refine j_callSi hx (c_Mo_six hG (mbl σ) 4 18 1 21 7 8) mo_Mo_six t_1620 t_1619 (by decide) rfl rfl (Nat.le_of_ble_eq_true rfl) d_Mo_isDraught_87 ?_
            refine j_icmp_ne (tgt := 113) hx d_Mo_isDraught_90 (by decide) (fun zc90 => ?_) (fun zc90 => ?_)
            · skip
              refine j_iconst (v := 0) hx d_Mo_isDraught_113 (by decide) ?_
              refine j_istore_n hx [(3, .int 0), (0, .ref (G.1 111)), (1, .int (wrd (mbl σ 111 2) (mbl σ 112) (mbl σ 111 4) (wlen (mbl σ 111 2) (mbl σ 112) (mbl σ 111 4)))), (2, .int (nI (wlen (mbl σ 111 2) (mbl σ 112) (mbl σ 111 4))))] d_Mo_isDraught_114 rfl (by decide) rfl ?_
              refine j_iload_n hx d_Mo_isDraught_115 rfl 0 rfl ?_
              refine j_if_eq (tgt := 123) hx d_Mo_isDraught_116 (by decide) (fun _ => ?_) (fun zc116 => absurd (by decide) zc116)
              refine j_iload_n hx d_Mo_isDraught_123 rfl 0 rfl ?_
              exact j_iret hx hq rfl d_Mo_isDraught_124 (by first | (first | exact (b2_t (p := mDr σ) ⟨zc4, zc73, zc90, zc106⟩).symm | exact (b2_f (p := mDr σ) (fun z => zc106 z.2.2.2)).symm | exact (b2_f (p := mDr σ) (fun z => zc90 z.2.2.1)).symm | exact (b2_f (p := mDr σ) (fun z => zc73 z.2.1)).symm) | fail) (by first | (unfold mdrS mbz; first | (rw [if_neg (show ¬ b2 (mDr σ) = 0 from fun z => b2_z z ⟨zc4, zc73, zc90, zc106⟩), if_pos zc4]; done) | (rw [if_pos (b2_f (p := mDr σ) (fun z => zc106 z.2.2.2)), if_pos zc4]; done) | (rw [if_pos (b2_f (p := mDr σ) (fun z => zc90 z.2.2.1)), if_pos zc4]; done) | (rw [if_pos (b2_f (p := mDr σ) (fun z => zc73 z.2.1)), if_pos zc4]; done)) | fail)
            · skip
              refine j_aload_n hx d_Mo_isDraught_93 rfl 0 rfl ?_
              refine j_aload_n hx d_Mo_isDraught_94 rfl 0 rfl ?_
              refine j_get hx ck_Mo 4 (by decide) t_1422 (by decide) (sh_111 _ _) rfl d_Mo_isDraught_95 ?_
              refine j_bipush (v := 6) hx d_Mo_isDraught_98 (by decide) ?_
              refine j_iadd hx d_Mo_isDraught_100 ?_
              refine j_callVi hx (c_Mo_byteAt hG (mbl σ) (((mbl σ) 111 4) + 6) (by rw [i_add rfl (show (6 : Int32).toInt = 6 from rfl) (by omega) (by omega)]; omega) (by exact hpb.2.2)) mo_Mo_byteAt mv_Mo_byteAt t_1596 (by decide) rfl (by decide) (sh_111 _ _) rfl rfl (Nat.le_of_ble_eq_true rfl) d_Mo_isDraught_101 ?_
              refine j_bipush (v := 116) hx d_Mo_isDraught_104 (by decide) ?_
              refine j_icmp_ne (tgt := 113) hx d_Mo_isDraught_106 (by decide) (fun zc106 => ?_) (fun zc106 => ?_)
              · skip
                refine j_iconst (v := 0) hx d_Mo_isDraught_113 (by decide) ?_
                refine j_istore_n hx [(3, .int 0), (0, .ref (G.1 111)), (1, .int (wrd (mbl σ 111 2) (mbl σ 112) (mbl σ 111 4) (wlen (mbl σ 111 2) (mbl σ 112) (mbl σ 111 4)))), (2, .int (nI (wlen (mbl σ 111 2) (mbl σ 112) (mbl σ 111 4))))] d_Mo_isDraught_114 rfl (by decide) rfl ?_
                refine j_iload_n hx d_Mo_isDraught_115 rfl 0 rfl ?_
                refine j_if_eq (tgt := 123) hx d_Mo_isDraught_116 (by decide) (fun _ => ?_) (fun zc116 => absurd (by decide) zc116)
                refine j_iload_n hx d_Mo_isDraught_123 rfl 0 rfl ?_
                exact j_iret hx hq rfl d_Mo_isDraught_124 (by first | (first | exact (b2_t (p := mDr σ) ⟨zc4, zc73, zc90, zc106⟩).symm | exact (b2_f (p := mDr σ) (fun z => zc106 z.2.2.2)).symm | exact (b2_f (p := mDr σ) (fun z => zc90 z.2.2.1)).symm | exact (b2_f (p := mDr σ) (fun z => zc73 z.2.1)).symm) | fail) (by first | (unfold mdrS mbz; first | (rw [if_neg (show ¬ b2 (mDr σ) = 0 from fun z => b2_z z ⟨zc4, zc73, zc90, zc106⟩), if_pos zc4]; done) | (rw [if_pos (b2_f (p := mDr σ) (fun z => zc106 z.2.2.2)), if_pos zc4]; done) | (rw [if_pos (b2_f (p := mDr σ) (fun z => zc90 z.2.2.1)), if_pos zc4]; done) | (rw [if_pos (b2_f (p := mDr σ) (fun z => zc73 z.2.1)), if_pos zc4]; done)) | fail)
              · skip
                refine j_iconst (v := 1) hx d_Mo_isDraught_109 (by decide) ?_
                refine j_goto (tgt := 114) hx d_Mo_isDraught_110 (by decide) ?_
                refine j_istore_n hx [(3, .int 1), (0, .ref (G.1 111)), (1, .int (wrd (mbl σ 111 2) (mbl σ 112) (mbl σ 111 4) (wlen (mbl σ 111 2) (mbl σ 112) (mbl σ 111 4)))), (2, .int (nI (wlen (mbl σ 111 2) (mbl σ 112) (mbl σ 111 4))))] d_Mo_isDraught_114 rfl (by decide) rfl ?_
                refine j_iload_n hx d_Mo_isDraught_115 rfl 0 rfl ?_
                refine j_if_eq (tgt := 123) hx d_Mo_isDraught_116 (by decide) (fun zc116 => absurd zc116 (by decide)) (fun _ => ?_)
                refine j_aload_n hx d_Mo_isDraught_119 rfl 1 rfl ?_
                refine j_callVv hx (c_Mo_skipWord hG (mbl σ) (by exact hpb)) mo_Mo_skipWord mv_Mo_skipWord t_1629 (by decide) rfl (by decide) (sh_111 _ _) rfl rfl (Nat.le_of_ble_eq_true rfl) d_Mo_isDraught_120 ?_
                refine j_iload_n hx d_Mo_isDraught_123 rfl 0 rfl ?_
                exact j_iret hx hq rfl d_Mo_isDraught_124 (by first | (first | exact (b2_t (p := mDr σ) ⟨zc4, zc73, zc90, zc106⟩).symm | exact (b2_f (p := mDr σ) (fun z => zc106 z.2.2.2)).symm | exact (b2_f (p := mDr σ) (fun z => zc90 z.2.2.1)).symm | exact (b2_f (p := mDr σ) (fun z => zc73 z.2.1)).symm) | fail) (by first | (unfold mdrS mbz; first | (rw [if_neg (show ¬ b2 (mDr σ) = 0 from fun z => b2_z z ⟨zc4, zc73, zc90, zc106⟩), if_pos zc4]; done) | (rw [if_pos (b2_f (p := mDr σ) (fun z => zc106 z.2.2.2)), if_pos zc4]; done) | (rw [if_pos (b2_f (p := mDr σ) (fun z => zc90 z.2.2.1)), if_pos zc4]; done) | (rw [if_pos (b2_f (p := mDr σ) (fun z => zc73 z.2.1)), if_pos zc4]; done)) | fail)
        · skip
          refine j_iload_n hx d_Mo_isDraught_33 rfl 2 rfl ?_
          refine j_bipush (v := 6) hx d_Mo_isDraught_34 (by decide) ?_
          refine j_icmp_ge (tgt := 62) hx d_Mo_isDraught_36 (by decide) (fun zc36 => ?_) (fun zc36 => ?_)
          · skip
            refine j_iload_n hx d_Mo_isDraught_62 rfl 1 rfl ?_
            refine j_istore_n hx [(1, .int (wrd (mbl σ 111 2) (mbl σ 112) (mbl σ 111 4) i)), (0, .ref (G.1 111)), (2, .int (nI i))] d_Mo_isDraught_63 rfl (by decide) rfl ?_
            refine j_iinc hx [(2, .int ((nI i) + 1)), (1, .int (wrd (mbl σ 111 2) (mbl σ 112) (mbl σ 111 4) i)), (0, .ref (G.1 111))] d_Mo_isDraught_64 2 rfl rfl (by decide) rfl ?_
            refine j_goto (tgt := 17) hx d_Mo_isDraught_67 (by decide) ?_
            refine J.lsub (ls' := [(0, .ref (G.1 111)), (1, .int (wrd (mbl σ 111 2) (mbl σ 112) (mbl σ 111 4) i)), (2, .int ((nI i) + 1))]) [2, 1, 0] rfl ?_
            refine J.to ?_ ?_ (ih17 _ ?_ (i + 1) (by have := (wlen_is hpb.1 hpb.2.1 hpb.2.2 hi).mp (b2_nz zc30); omega) rfl)
            · first | (rfl) | fail
            · first | (simp only [nI_s]; first | (rw [wrd_1 (show i < 6 by have h6 : nI i < nI 6 := i_nle zc36; rw [znI_lt (by omega) (by omega)] at h6; exact h6)]; done) | (rw [wrd_2 (show ¬ i < 6 by have h6 : nI 6 ≤ nI i := zc36; rw [znI_le (by omega) (by omega)] at h6; omega)]; done)) | fail
            · first | (have := (wlen_is hpb.1 hpb.2.1 hpb.2.2 hi).mp (b2_nz zc30); omega) | fail
          · skip
            refine j_bipush (v := 27) hx d_Mo_isDraught_39 (by decide) ?_
            refine j_iload_n hx d_Mo_isDraught_41 rfl 1 rfl ?_
            refine j_imul hx d_Mo_isDraught_42 ?_
            refine j_aload_n hx d_Mo_isDraught_43 rfl 0 rfl ?_
            refine j_aload_n hx d_Mo_isDraught_44 rfl 0 rfl ?_
            refine j_get hx ck_Mo 4 (by decide) t_1422 (by decide) (sh_111 _ _) rfl d_Mo_isDraught_45 ?_
            refine j_iload_n hx d_Mo_isDraught_48 rfl 2 rfl ?_
            refine j_iadd hx d_Mo_isDraught_49 ?_
            refine j_callVi hx (c_Mo_byteAt hG (mbl σ) (((mbl σ) 111 4) + (nI i)) (by rw [ea]; omega) (by exact hpb.2.2)) mo_Mo_byteAt mv_Mo_byteAt t_1596 (by decide) rfl (by decide) (sh_111 _ _) rfl rfl (Nat.le_of_ble_eq_true rfl) d_Mo_isDraught_50 ?_
            refine j_iadd hx d_Mo_isDraught_53 ?_
            refine j_bipush (v := 97) hx d_Mo_isDraught_54 (by decide) ?_
            refine j_isub hx d_Mo_isDraught_56 ?_
            refine j_iconst (v := 1) hx d_Mo_isDraught_57 (by decide) ?_
            refine j_iadd hx d_Mo_isDraught_58 ?_
            refine j_goto (tgt := 63) hx d_Mo_isDraught_59 (by decide) ?_
            refine j_istore_n hx [(1, .int ((((27 * (wrd (mbl σ 111 2) (mbl σ 112) (mbl σ 111 4) i)) + (mbt ((mbl σ) 111 2) ((mbl σ) 112) (((mbl σ) 111 4) + (nI i)))) - 97) + 1)), (0, .ref (G.1 111)), (2, .int (nI i))] d_Mo_isDraught_63 rfl (by decide) rfl ?_
            refine j_iinc hx [(2, .int ((nI i) + 1)), (1, .int ((((27 * (wrd (mbl σ 111 2) (mbl σ 112) (mbl σ 111 4) i)) + (mbt ((mbl σ) 111 2) ((mbl σ) 112) (((mbl σ) 111 4) + (nI i)))) - 97) + 1)), (0, .ref (G.1 111))] d_Mo_isDraught_64 2 rfl rfl (by decide) rfl ?_
            refine j_goto (tgt := 17) hx d_Mo_isDraught_67 (by decide) ?_
            refine J.lsub (ls' := [(0, .ref (G.1 111)), (1, .int ((((27 * (wrd (mbl σ 111 2) (mbl σ 112) (mbl σ 111 4) i)) + (mbt ((mbl σ) 111 2) ((mbl σ) 112) (((mbl σ) 111 4) + (nI i)))) - 97) + 1)), (2, .int ((nI i) + 1))]) [2, 1, 0] rfl ?_
            refine J.to ?_ ?_ (ih17 _ ?_ (i + 1) (by have := (wlen_is hpb.1 hpb.2.1 hpb.2.2 hi).mp (b2_nz zc30); omega) rfl)
            · first | (rfl) | fail
            · first | (simp only [nI_s]; first | (rw [wrd_1 (show i < 6 by have h6 : nI i < nI 6 := i_nle zc36; rw [znI_lt (by omega) (by omega)] at h6; exact h6)]; done) | (rw [wrd_2 (show ¬ i < 6 by have h6 : nI 6 ≤ nI i := zc36; rw [znI_le (by omega) (by omega)] at h6; omega)]; done)) | fail
            · first | (have := (wlen_is hpb.1 hpb.2.1 hpb.2.2 hi).mp (b2_nz zc30); omega) | fail
    refine J.lsub (ls' := [(0, .ref (G.1 111)), (1, .int 0), (2, .int 0)]) [2, 1, 0] rfl ?_
    refine J.to ?_ ?_ (hl17 _ 0 (Nat.zero_le _) rfl)
    · first | (rfl) | fail
    · first | (rfl) | fail
  · skip
    refine j_iconst (v := 0) hx d_Mo_isDraught_7 (by decide) ?_
    exact j_iret hx hq rfl d_Mo_isDraught_8 (by first | (exact (b2_f (p := mDr σ) (fun z => zc4 z.1)).symm) | fail) (by first | (unfold mdrS mbz; rw [if_pos (b2_f (p := mDr σ) (fun z => zc4 z.1)), if_neg zc4]) | fail)

set_option maxRecDepth 20000 in
set_option maxHeartbeats 600000 in
theorem c_Mo_knownHere {l : Launch} {G : Gz} (hG : zI G) (σ : St) (hp : pB σ) : MI l G y_Mo_knownHere prog_14_method_36_code 1 .int 6 [.ref (G.1 111)] σ (mqV σ) (mqS σ) := by
  refine MI.of hG (by decide) (Nat.le_of_ble_eq_true rfl) (fun X hx hq => ?_)
  show J l G X 1 σ 0 [(0, .ref (G.1 111))] []
  refine j_aload_n hx d_Mo_knownHere_0 rfl 0 rfl ?_
  refine j_bipush (v := 19) hx d_Mo_knownHere_1 (by decide) ?_
  refine j_iconst (v := 5) hx d_Mo_knownHere_3 (by decide) ?_
  refine j_iconst (v := 5) hx d_Mo_knownHere_4 (by decide) ?_
  refine j_bipush (v := 14) hx d_Mo_knownHere_5 (by decide) ?_
  refine j_iconst (v := 0) hx d_Mo_knownHere_7 (by decide) ?_
  refine j_iconst (v := 0) hx d_Mo_knownHere_8 (by decide) ?_
  refine j_callVi hx (c_Mo_takes hG σ 19 5 5 14 0 0 (by exact hp)) mo_Mo_takes mv_Mo_takes t_1677 (by decide) rfl (by decide) (sh_111 _ _) rfl rfl (Nat.le_of_ble_eq_true rfl) d_Mo_knownHere_9 ?_
  refine j_if_eq (tgt := 17) hx d_Mo_knownHere_12 (by decide) (fun zc12 => ?_) (fun zc12 => ?_)
  · skip
    obtain ⟨s9_1, eg_1⟩ : ∃ z : St, z = mbz σ := ⟨_, rfl⟩
    refine J.to (σ' := s9_1) (by rw [eg_1]; exact mtk_0 zc12) rfl ?_
    refine j_aload_n hx d_Mo_knownHere_17 rfl 0 rfl ?_
    refine j_iconst (v := 4) hx d_Mo_knownHere_18 (by decide) ?_
    refine j_iconst (v := 1) hx d_Mo_knownHere_19 (by decide) ?_
    refine j_bipush (v := 18) hx d_Mo_knownHere_20 (by decide) ?_
    refine j_bipush (v := 11) hx d_Mo_knownHere_22 (by decide) ?_
    refine j_iconst (v := 0) hx d_Mo_knownHere_24 (by decide) ?_
    refine j_iconst (v := 0) hx d_Mo_knownHere_25 (by decide) ?_
    refine j_callVi hx (c_Mo_takes hG s9_1 4 1 18 11 0 0 (by rw [eg_1]; exact mbz_p hp)) mo_Mo_takes mv_Mo_takes t_1677 (by decide) rfl (by decide) (sh_111 _ _) rfl rfl (Nat.le_of_ble_eq_true rfl) d_Mo_knownHere_26 ?_
    refine j_if_eq (tgt := 34) hx d_Mo_knownHere_29 (by decide) (fun zc29 => ?_) (fun zc29 => ?_)
    · skip
      rw [eg_1, b2_mIs] at zc29
      obtain ⟨s9_2, eg_2⟩ : ∃ z : St, z = mbz σ := ⟨_, rfl⟩
      refine J.to (σ' := s9_2) (by rw [eg_2]; rw [eg_1]; rw [mtk_0 (by rw [b2_mIs]; exact zc29), mbz_i]) rfl ?_
      refine j_aload_n hx d_Mo_knownHere_34 rfl 0 rfl ?_
      refine j_bipush (v := 13) hx d_Mo_knownHere_35 (by decide) ?_
      refine j_bipush (v := 9) hx d_Mo_knownHere_37 (by decide) ?_
      refine j_bipush (v := 14) hx d_Mo_knownHere_39 (by decide) ?_
      refine j_bipush (v := 21) hx d_Mo_knownHere_41 (by decide) ?_
      refine j_bipush (v := 20) hx d_Mo_knownHere_43 (by decide) ?_
      refine j_iconst (v := 5) hx d_Mo_knownHere_45 (by decide) ?_
      refine j_callVi hx (c_Mo_takes hG s9_2 13 9 14 21 20 5 (by rw [eg_2]; exact mbz_p hp)) mo_Mo_takes mv_Mo_takes t_1677 (by decide) rfl (by decide) (sh_111 _ _) rfl rfl (Nat.le_of_ble_eq_true rfl) d_Mo_knownHere_46 ?_
      refine j_if_eq (tgt := 54) hx d_Mo_knownHere_49 (by decide) (fun zc49 => ?_) (fun zc49 => ?_)
      · skip
        rw [eg_2, b2_mIs] at zc49
        obtain ⟨s9_3, eg_3⟩ : ∃ z : St, z = mbz σ := ⟨_, rfl⟩
        refine J.to (σ' := s9_3) (by rw [eg_3]; rw [eg_2]; rw [mtk_0 (by rw [b2_mIs]; exact zc49), mbz_i]) rfl ?_
        refine j_aload_n hx d_Mo_knownHere_54 rfl 0 rfl ?_
        refine j_iconst (v := 3) hx d_Mo_knownHere_55 (by decide) ?_
        refine j_iconst (v := 5) hx d_Mo_knownHere_56 (by decide) ?_
        refine j_bipush (v := 12) hx d_Mo_knownHere_57 (by decide) ?_
        refine j_bipush (v := 12) hx d_Mo_knownHere_59 (by decide) ?_
        refine j_iconst (v := 0) hx d_Mo_knownHere_61 (by decide) ?_
        refine j_iconst (v := 0) hx d_Mo_knownHere_62 (by decide) ?_
        refine j_callVi hx (c_Mo_takes hG s9_3 3 5 12 12 0 0 (by rw [eg_3]; exact mbz_p hp)) mo_Mo_takes mv_Mo_takes t_1677 (by decide) rfl (by decide) (sh_111 _ _) rfl rfl (Nat.le_of_ble_eq_true rfl) d_Mo_knownHere_63 ?_
        refine j_if_eq (tgt := 71) hx d_Mo_knownHere_66 (by decide) (fun zc66 => ?_) (fun zc66 => ?_)
        · skip
          rw [eg_3, b2_mIs] at zc66
          obtain ⟨s9_4, eg_4⟩ : ∃ z : St, z = mbz σ := ⟨_, rfl⟩
          refine J.to (σ' := s9_4) (by rw [eg_4]; rw [eg_3]; rw [mtk_0 (by rw [b2_mIs]; exact zc66), mbz_i]) rfl ?_
          refine j_aload_n hx d_Mo_knownHere_71 rfl 0 rfl ?_
          refine j_bipush (v := 20) hx d_Mo_knownHere_72 (by decide) ?_
          refine j_bipush (v := 18) hx d_Mo_knownHere_74 (by decide) ?_
          refine j_bipush (v := 21) hx d_Mo_knownHere_76 (by decide) ?_
          refine j_bipush (v := 19) hx d_Mo_knownHere_78 (by decide) ?_
          refine j_bipush (v := 20) hx d_Mo_knownHere_80 (by decide) ?_
          refine j_iconst (v := 0) hx d_Mo_knownHere_82 (by decide) ?_
          refine j_callVi hx (c_Mo_takes hG s9_4 20 18 21 19 20 0 (by rw [eg_4]; exact mbz_p hp)) mo_Mo_takes mv_Mo_takes t_1677 (by decide) rfl (by decide) (sh_111 _ _) rfl rfl (Nat.le_of_ble_eq_true rfl) d_Mo_knownHere_83 ?_
          refine j_if_eq (tgt := 91) hx d_Mo_knownHere_86 (by decide) (fun zc86 => ?_) (fun zc86 => ?_)
          · skip
            rw [eg_4, b2_mIs] at zc86
            obtain ⟨s9_5, eg_5⟩ : ∃ z : St, z = mbz σ := ⟨_, rfl⟩
            refine J.to (σ' := s9_5) (by rw [eg_5]; rw [eg_4]; rw [mtk_0 (by rw [b2_mIs]; exact zc86), mbz_i]) rfl ?_
            refine j_aload_n hx d_Mo_knownHere_91 rfl 0 rfl ?_
            refine j_callVi hx (c_Mo_isDraught hG s9_5 (by rw [eg_5]; exact mbz_p hp)) mo_Mo_isDraught mv_Mo_isDraught t_1681 (by decide) rfl (by decide) (sh_111 _ _) rfl rfl (Nat.le_of_ble_eq_true rfl) d_Mo_knownHere_92 ?_
            refine j_if_eq (tgt := 100) hx d_Mo_knownHere_95 (by decide) (fun zc95 => ?_) (fun zc95 => ?_)
            · skip
              rw [eg_5, b2_mDr] at zc95
              obtain ⟨s9_6, eg_6⟩ : ∃ z : St, z = mbz σ := ⟨_, rfl⟩
              refine J.to (σ' := s9_6) (by rw [eg_6]; rw [eg_5]; unfold mdrS; rw [b2_mDr, if_pos zc95, mbz_i]) rfl ?_
              refine j_aload_n hx d_Mo_knownHere_100 rfl 0 rfl ?_
              refine j_iconst (v := 3) hx d_Mo_knownHere_101 (by decide) ?_
              refine j_bipush (v := 18) hx d_Mo_knownHere_102 (by decide) ?_
              refine j_iconst (v := 5) hx d_Mo_knownHere_104 (by decide) ?_
              refine j_bipush (v := 23) hx d_Mo_knownHere_105 (by decide) ?_
              refine j_iconst (v := 0) hx d_Mo_knownHere_107 (by decide) ?_
              refine j_iconst (v := 0) hx d_Mo_knownHere_108 (by decide) ?_
              refine j_callVi hx (c_Mo_takes hG s9_6 3 18 5 23 0 0 (by rw [eg_6]; exact mbz_p hp)) mo_Mo_takes mv_Mo_takes t_1677 (by decide) rfl (by decide) (sh_111 _ _) rfl rfl (Nat.le_of_ble_eq_true rfl) d_Mo_knownHere_109 ?_
              refine j_if_eq (tgt := 118) hx d_Mo_knownHere_112 (by decide) (fun zc112 => ?_) (fun zc112 => ?_)
              · skip
                rw [eg_6, b2_mIs] at zc112
                obtain ⟨s9_7, eg_7⟩ : ∃ z : St, z = mbz σ := ⟨_, rfl⟩
                refine J.to (σ' := s9_7) (by rw [eg_7]; rw [eg_6]; rw [mtk_0 (by rw [b2_mIs]; exact zc112), mbz_i]) rfl ?_
                refine j_aload_n hx d_Mo_knownHere_118 rfl 0 rfl ?_
                refine j_bipush (v := 14) hx d_Mo_knownHere_119 (by decide) ?_
                refine j_bipush (v := 9) hx d_Mo_knownHere_121 (by decide) ?_
                refine j_bipush (v := 7) hx d_Mo_knownHere_123 (by decide) ?_
                refine j_bipush (v := 8) hx d_Mo_knownHere_125 (by decide) ?_
                refine j_bipush (v := 20) hx d_Mo_knownHere_127 (by decide) ?_
                refine j_iconst (v := 0) hx d_Mo_knownHere_129 (by decide) ?_
                refine j_callVi hx (c_Mo_takes hG s9_7 14 9 7 8 20 0 (by rw [eg_7]; exact mbz_p hp)) mo_Mo_takes mv_Mo_takes t_1677 (by decide) rfl (by decide) (sh_111 _ _) rfl rfl (Nat.le_of_ble_eq_true rfl) d_Mo_knownHere_130 ?_
                refine j_if_eq (tgt := 139) hx d_Mo_knownHere_133 (by decide) (fun zc133 => ?_) (fun zc133 => ?_)
                · skip
                  rw [eg_7, b2_mIs] at zc133
                  obtain ⟨s9_8, eg_8⟩ : ∃ z : St, z = mbz σ := ⟨_, rfl⟩
                  refine J.to (σ' := s9_8) (by rw [eg_8]; rw [eg_7]; rw [mtk_0 (by rw [b2_mIs]; exact zc133), mbz_i]) rfl ?_
                  refine j_aload_n hx d_Mo_knownHere_139 rfl 0 rfl ?_
                  refine j_bipush (v := 6) hx d_Mo_knownHere_140 (by decide) ?_
                  refine j_bipush (v := 15) hx d_Mo_knownHere_142 (by decide) ?_
                  refine j_bipush (v := 7) hx d_Mo_knownHere_144 (by decide) ?_
                  refine j_iconst (v := 0) hx d_Mo_knownHere_146 (by decide) ?_
                  refine j_iconst (v := 0) hx d_Mo_knownHere_147 (by decide) ?_
                  refine j_iconst (v := 0) hx d_Mo_knownHere_148 (by decide) ?_
                  refine j_callVi hx (c_Mo_takes hG s9_8 6 15 7 0 0 0 (by rw [eg_8]; exact mbz_p hp)) mo_Mo_takes mv_Mo_takes t_1677 (by decide) rfl (by decide) (sh_111 _ _) rfl rfl (Nat.le_of_ble_eq_true rfl) d_Mo_knownHere_149 ?_
                  refine j_if_eq (tgt := 160) hx d_Mo_knownHere_152 (by decide) (fun zc152 => ?_) (fun zc152 => ?_)
                  · skip
                    rw [eg_8, b2_mIs] at zc152
                    obtain ⟨s9_9, eg_9⟩ : ∃ z : St, z = mbz σ := ⟨_, rfl⟩
                    refine J.to (σ' := s9_9) (by rw [eg_9]; rw [eg_8]; rw [mtk_0 (by rw [b2_mIs]; exact zc152), mbz_i]) rfl ?_
                    refine j_iconst (v := (-1)) hx d_Mo_knownHere_160 (by decide) ?_
                    exact j_iret hx hq rfl d_Mo_knownHere_161 (by first | (first | (exact (show mqV σ = 8 from by unfold mqV; rw [if_pos zc12, if_pos zc29, if_pos zc49, if_pos zc66, if_pos zc86, if_pos zc95, if_pos zc112, if_pos zc133, if_neg zc152]).symm) | (exact (show mqV σ = -1 from by unfold mqV; rw [if_pos zc12, if_pos zc29, if_pos zc49, if_pos zc66, if_pos zc86, if_pos zc95, if_pos zc112, if_pos zc133, if_pos zc152]).symm)) | fail) (by first | (first | (rw [mq_h (show mqV σ = 8 from by unfold mqV; rw [if_pos zc12, if_pos zc29, if_pos zc49, if_pos zc66, if_pos zc86, if_pos zc95, if_pos zc112, if_pos zc133, if_neg zc152]) (by decide), eg_8, mtk_1 (by rw [b2_mIs]; exact zc152), mbz_i]) | (rw [mq_n (show mqV σ = -1 from by unfold mqV; rw [if_pos zc12, if_pos zc29, if_pos zc49, if_pos zc66, if_pos zc86, if_pos zc95, if_pos zc112, if_pos zc133, if_pos zc152])]; exact eg_9)) | fail)
                  · skip
                    rw [eg_8, b2_mIs] at zc152
                    refine j_bipush (v := 8) hx d_Mo_knownHere_155 (by decide) ?_
                    refine j_goto (tgt := 161) hx d_Mo_knownHere_157 (by decide) ?_
                    exact j_iret hx hq rfl d_Mo_knownHere_161 (by first | (first | (exact (show mqV σ = 8 from by unfold mqV; rw [if_pos zc12, if_pos zc29, if_pos zc49, if_pos zc66, if_pos zc86, if_pos zc95, if_pos zc112, if_pos zc133, if_neg zc152]).symm) | (exact (show mqV σ = -1 from by unfold mqV; rw [if_pos zc12, if_pos zc29, if_pos zc49, if_pos zc66, if_pos zc86, if_pos zc95, if_pos zc112, if_pos zc133, if_pos zc152]).symm)) | fail) (by first | (first | (rw [mq_h (show mqV σ = 8 from by unfold mqV; rw [if_pos zc12, if_pos zc29, if_pos zc49, if_pos zc66, if_pos zc86, if_pos zc95, if_pos zc112, if_pos zc133, if_neg zc152]) (by decide), eg_8, mtk_1 (by rw [b2_mIs]; exact zc152), mbz_i]) | (rw [mq_n (show mqV σ = -1 from by unfold mqV; rw [if_pos zc12, if_pos zc29, if_pos zc49, if_pos zc66, if_pos zc86, if_pos zc95, if_pos zc112, if_pos zc133, if_pos zc152])]; exact eg_9)) | fail)
                · skip
                  rw [eg_7, b2_mIs] at zc133
                  refine j_bipush (v := 7) hx d_Mo_knownHere_136 (by decide) ?_
                  exact j_iret hx hq rfl d_Mo_knownHere_138 (by first | (first | (exact (show mqV σ = 7 from by unfold mqV; rw [if_pos zc12, if_pos zc29, if_pos zc49, if_pos zc66, if_pos zc86, if_pos zc95, if_pos zc112, if_neg zc133]).symm)) | fail) (by first | (first | (rw [mq_h (show mqV σ = 7 from by unfold mqV; rw [if_pos zc12, if_pos zc29, if_pos zc49, if_pos zc66, if_pos zc86, if_pos zc95, if_pos zc112, if_neg zc133]) (by decide), eg_7, mtk_1 (by rw [b2_mIs]; exact zc133), mbz_i])) | fail)
              · skip
                rw [eg_6, b2_mIs] at zc112
                refine j_bipush (v := 6) hx d_Mo_knownHere_115 (by decide) ?_
                exact j_iret hx hq rfl d_Mo_knownHere_117 (by first | (first | (exact (show mqV σ = 6 from by unfold mqV; rw [if_pos zc12, if_pos zc29, if_pos zc49, if_pos zc66, if_pos zc86, if_pos zc95, if_neg zc112]).symm)) | fail) (by first | (first | (rw [mq_h (show mqV σ = 6 from by unfold mqV; rw [if_pos zc12, if_pos zc29, if_pos zc49, if_pos zc66, if_pos zc86, if_pos zc95, if_neg zc112]) (by decide), eg_6, mtk_1 (by rw [b2_mIs]; exact zc112), mbz_i])) | fail)
            · skip
              rw [eg_5, b2_mDr] at zc95
              refine j_iconst (v := 5) hx d_Mo_knownHere_98 (by decide) ?_
              exact j_iret hx hq rfl d_Mo_knownHere_99 (by first | (first | (exact (show mqV σ = 5 from by unfold mqV; rw [if_pos zc12, if_pos zc29, if_pos zc49, if_pos zc66, if_pos zc86, if_neg zc95]).symm)) | fail) (by first | (first | (rw [mq_h (show mqV σ = 5 from by unfold mqV; rw [if_pos zc12, if_pos zc29, if_pos zc49, if_pos zc66, if_pos zc86, if_neg zc95]) (by decide), eg_5]; unfold mdrS; rw [b2_mDr, if_neg zc95, mbz_i])) | fail)
          · skip
            rw [eg_4, b2_mIs] at zc86
            refine j_iconst (v := 4) hx d_Mo_knownHere_89 (by decide) ?_
            exact j_iret hx hq rfl d_Mo_knownHere_90 (by first | (first | (exact (show mqV σ = 4 from by unfold mqV; rw [if_pos zc12, if_pos zc29, if_pos zc49, if_pos zc66, if_neg zc86]).symm)) | fail) (by first | (first | (rw [mq_h (show mqV σ = 4 from by unfold mqV; rw [if_pos zc12, if_pos zc29, if_pos zc49, if_pos zc66, if_neg zc86]) (by decide), eg_4, mtk_1 (by rw [b2_mIs]; exact zc86), mbz_i])) | fail)
        · skip
          rw [eg_3, b2_mIs] at zc66
          refine j_iconst (v := 3) hx d_Mo_knownHere_69 (by decide) ?_
          exact j_iret hx hq rfl d_Mo_knownHere_70 (by first | (first | (exact (show mqV σ = 3 from by unfold mqV; rw [if_pos zc12, if_pos zc29, if_pos zc49, if_neg zc66]).symm)) | fail) (by first | (first | (rw [mq_h (show mqV σ = 3 from by unfold mqV; rw [if_pos zc12, if_pos zc29, if_pos zc49, if_neg zc66]) (by decide), eg_3, mtk_1 (by rw [b2_mIs]; exact zc66), mbz_i])) | fail)
      · skip
        rw [eg_2, b2_mIs] at zc49
        refine j_iconst (v := 2) hx d_Mo_knownHere_52 (by decide) ?_
        exact j_iret hx hq rfl d_Mo_knownHere_53 (by first | (first | (exact (show mqV σ = 2 from by unfold mqV; rw [if_pos zc12, if_pos zc29, if_neg zc49]).symm)) | fail) (by first | (first | (rw [mq_h (show mqV σ = 2 from by unfold mqV; rw [if_pos zc12, if_pos zc29, if_neg zc49]) (by decide), eg_2, mtk_1 (by rw [b2_mIs]; exact zc49), mbz_i])) | fail)
    · skip
      rw [eg_1, b2_mIs] at zc29
      refine j_iconst (v := 1) hx d_Mo_knownHere_32 (by decide) ?_
      exact j_iret hx hq rfl d_Mo_knownHere_33 (by first | (first | (exact (show mqV σ = 1 from by unfold mqV; rw [if_pos zc12, if_neg zc29]).symm)) | fail) (by first | (first | (rw [mq_h (show mqV σ = 1 from by unfold mqV; rw [if_pos zc12, if_neg zc29]) (by decide), eg_1, mtk_1 (by rw [b2_mIs]; exact zc29), mbz_i])) | fail)
  · skip
    refine j_iconst (v := 0) hx d_Mo_knownHere_15 (by decide) ?_
    exact j_iret hx hq rfl d_Mo_knownHere_16 (by first | (first | (exact (show mqV σ = 0 from by unfold mqV; rw [if_neg zc12]).symm)) | fail) (by first | (first | (rw [mq_h (show mqV σ = 0 from by unfold mqV; rw [if_neg zc12]) (by decide)]; exact mtk_1 zc12)) | fail)

set_option maxRecDepth 20000 in
set_option maxHeartbeats 600000 in
theorem c_Mo_notes {l : Launch} {G : Gz} (hG : zI G) (σ : St) (what : Int32) (v9 : Int32) (hm : σ 111 5 = 0 → 0 ≤ (σ 111 24).toInt ∧ (σ 111 24).toInt < 160) : MV l G y_Mo_notes prog_14_method_32_code 3 1 [.ref (G.1 111), .int what, .int v9] σ (mnt σ what v9) := by
  refine MV.of hG (by decide) (Nat.le_of_ble_eq_true rfl) (fun X hx hq => ?_)
  show J l G X 3 σ 0 [(0, .ref (G.1 111)), (1, .int what), (2, .int v9)] []
  refine j_aload_n hx d_Mo_notes_0 rfl 0 rfl ?_
  refine j_get hx ck_Mo 5 (by decide) t_1423 (by decide) (sh_111 _ _) rfl d_Mo_notes_1 ?_
  refine j_if_eq (tgt := 8) hx d_Mo_notes_4 (by decide) (fun zc4 => ?_) (fun zc4 => ?_)
  · skip
    have hm9 := hm zc4
    refine j_aload_n hx d_Mo_notes_8 rfl 0 rfl ?_
    refine j_get hx ck_Mo 26 (by decide) t_1444 (by decide) (sh_111 _ _) rfl d_Mo_notes_9 ?_
    refine j_aload_n hx d_Mo_notes_12 rfl 0 rfl ?_
    refine j_get hx ck_Mo 24 (by decide) t_1442 (by decide) (sh_111 _ _) rfl d_Mo_notes_13 ?_
    have hz16_1 : zin (σ 111 24) 160 (((σ 111 24).toInt.toNat)) := by exact zin_of hm9.1 hm9.2
    refine j_aaldk hx ias_readLaw.1.1 (ias_readLaw.2.1 _ _) hz16_1 d_Mo_notes_16 ?_
    refine j_iconst (v := 0) hx d_Mo_notes_17 (by decide) ?_
    refine j_iload_n hx d_Mo_notes_18 rfl 1 rfl ?_
    have hz19_2 : zin (0) 2 0 := by first | exact ⟨rfl, by decide⟩ | exact zin_nI (by omega) (by first | decide | omega) | exact zin_of (by omega) (by omega)
    refine j_iastk hx (ias_readLaw.2.2 _ hz16_1.2) hz19_2 d_Mo_notes_19 ?_
    refine j_aload_n hx d_Mo_notes_20 rfl 0 rfl ?_
    refine j_get hx ck_Mo 26 (by decide) t_1444 (by decide) (sh_111 _ _) rfl d_Mo_notes_21 ?_
    refine j_aload_n hx d_Mo_notes_24 rfl 0 rfl ?_
    refine j_get hx ck_Mo 24 (by decide) t_1442 (by decide) (sh_111 _ _) rfl d_Mo_notes_25 ?_
    have hz28_3 : zin ((up σ (327 + ((σ 111 24).toInt.toNat)) 0 what) 111 24) 160 (((σ 111 24).toInt.toNat)) := by rw [up_o (show 111 ≠ 327 + (σ 111 24).toInt.toNat by omega)]; exact zin_of hm9.1 hm9.2
    refine j_aaldk hx ias_readLaw.1.1 (ias_readLaw.2.1 _ _) hz28_3 d_Mo_notes_28 ?_
    refine j_iconst (v := 1) hx d_Mo_notes_29 (by decide) ?_
    refine j_iload_n hx d_Mo_notes_30 rfl 2 rfl ?_
    have hz31_4 : zin (1) 2 1 := by first | exact ⟨rfl, by decide⟩ | exact zin_nI (by omega) (by first | decide | omega) | exact zin_of (by omega) (by omega)
    refine j_iastk hx (ias_readLaw.2.2 _ hz28_3.2) hz31_4 d_Mo_notes_31 ?_
    obtain ⟨s9_1, eg_1⟩ : ∃ z : St, z = up (up σ (327 + (σ 111 24).toInt.toNat) 0 what) (327 + (σ 111 24).toInt.toNat) 1 v9 := ⟨_, rfl⟩
    refine J.to (σ' := s9_1) (by rw [eg_1]; first | done | rfl) rfl ?_
    refine j_aload_n hx d_Mo_notes_32 rfl 0 rfl ?_
    refine j_dup hx d_Mo_notes_33 rfl ?_
    refine j_get hx ck_Mo 24 (by decide) t_1442 (by decide) (sh_111 _ _) rfl d_Mo_notes_34 ?_
    refine j_iconst (v := 1) hx d_Mo_notes_37 (by decide) ?_
    refine j_iadd hx d_Mo_notes_38 ?_
    refine j_put hx ck_Mo 24 (by decide) t_1442 (by decide) (sh_111 _ _) rfl (Nat.le_of_ble_eq_true rfl) (sh_111 _ _) d_Mo_notes_39 ?_
    exact j_vret hx hq d_Mo_notes_42 (by first | (unfold mnt; first | exact (if_neg zc4).symm | (rw [if_pos zc4, eg_1, up_o (show 111 ≠ 327 + (σ 111 24).toInt.toNat by omega), up_o (show 111 ≠ 327 + (σ 111 24).toInt.toNat by omega)]; done)) | fail)
  · skip
    exact j_vret hx hq d_Mo_notes_7 (by first | (unfold mnt; first | exact (if_neg zc4).symm | (rw [if_pos zc4, eg_1, up_o (show 111 ≠ 327 + (σ 111 24).toInt.toNat by omega), up_o (show 111 ≠ 327 + (σ 111 24).toInt.toNat by omega)]; done)) | fail)

set_option maxRecDepth 20000 in
set_option maxHeartbeats 600000 in
theorem c_Mo_opensOne {l : Launch} {G : Gz} (hG : zI G) (σ : St) : MI l G y_Mo_opensOne prog_14_method_33_code 1 .boolean 2 [.ref (G.1 111)] σ (b2 (mop σ 111 5 = 0)) (mop σ) := by
  refine MI.of hG (by decide) (Nat.le_of_ble_eq_true rfl) (fun X hx hq => ?_)
  show J l G X 1 σ 0 [(0, .ref (G.1 111))] []
  refine j_aload_n hx d_Mo_opensOne_0 rfl 0 rfl ?_
  refine j_get hx ck_Mo 5 (by decide) t_1423 (by decide) (sh_111 _ _) rfl d_Mo_opensOne_1 ?_
  refine j_if_ne (tgt := 28) hx d_Mo_opensOne_4 (by decide) (fun zc4 => ?_) (fun zc4 => ?_)
  · skip
    refine j_aload_n hx d_Mo_opensOne_28 rfl 0 rfl ?_
    refine j_get hx ck_Mo 5 (by decide) t_1423 (by decide) (sh_111 _ _) rfl d_Mo_opensOne_29 ?_
    refine j_if_ne (tgt := 45) hx d_Mo_opensOne_32 (by decide) (fun zc32 => ?_) (fun zc32 => ?_)
    · skip
      obtain ⟨s9_1, eg_1⟩ : ∃ z : St, z = mop σ := ⟨_, rfl⟩
      refine J.to (σ' := s9_1) (by rw [eg_1]; unfold mop; first | (rw [if_pos ⟨zc4, zc13⟩]; done) | (rw [if_neg (fun z : (σ 111 5 = 0 ∧ σ 111 8 = 6) => zc13 z.2), if_pos zc32]; done) | (rw [if_neg (fun z : (σ 111 5 = 0 ∧ σ 111 8 = 6) => zc4 z.1), if_neg zc32]; done) | exact absurd zc4 zc32 | exact absurd zc32 zc4) rfl ?_
      refine j_aload_n hx d_Mo_opensOne_45 rfl 0 rfl ?_
      refine j_get hx ck_Mo 5 (by decide) t_1423 (by decide) (sh_111 _ _) rfl d_Mo_opensOne_46 ?_
      refine j_if_ne (tgt := 56) hx d_Mo_opensOne_49 (by decide) (fun zc49 => ?_) (fun zc49 => ?_)
      · skip
        refine j_iconst (v := 0) hx d_Mo_opensOne_56 (by decide) ?_
        exact j_iret hx hq rfl d_Mo_opensOne_57 (by first | (rw [eg_1] at zc49; first | exact (b2_t zc49).symm | exact (b2_f zc49).symm) | fail) (by first | (rw [eg_1]) | fail)
      · skip
        refine j_iconst (v := 1) hx d_Mo_opensOne_52 (by decide) ?_
        refine j_goto (tgt := 57) hx d_Mo_opensOne_53 (by decide) ?_
        exact j_iret hx hq rfl d_Mo_opensOne_57 (by first | (rw [eg_1] at zc49; first | exact (b2_t zc49).symm | exact (b2_f zc49).symm) | fail) (by first | (rw [eg_1]) | fail)
    · skip
      refine j_aload_n hx d_Mo_opensOne_35 rfl 0 rfl ?_
      refine j_dup hx d_Mo_opensOne_36 rfl ?_
      refine j_get hx ck_Mo 8 (by decide) t_1426 (by decide) (sh_111 _ _) rfl d_Mo_opensOne_37 ?_
      refine j_iconst (v := 1) hx d_Mo_opensOne_40 (by decide) ?_
      refine j_iadd hx d_Mo_opensOne_41 ?_
      refine j_put hx ck_Mo 8 (by decide) t_1426 (by decide) (sh_111 _ _) rfl (Nat.le_of_ble_eq_true rfl) (sh_111 _ _) d_Mo_opensOne_42 ?_
      obtain ⟨s9_1, eg_1⟩ : ∃ z : St, z = mop σ := ⟨_, rfl⟩
      refine J.to (σ' := s9_1) (by rw [eg_1]; unfold mop; first | (rw [if_pos ⟨zc4, zc13⟩]; done) | (rw [if_neg (fun z : (σ 111 5 = 0 ∧ σ 111 8 = 6) => zc13 z.2), if_pos zc32]; done) | (rw [if_neg (fun z : (σ 111 5 = 0 ∧ σ 111 8 = 6) => zc4 z.1), if_neg zc32]; done) | exact absurd zc4 zc32 | exact absurd zc32 zc4) rfl ?_
      refine j_aload_n hx d_Mo_opensOne_45 rfl 0 rfl ?_
      refine j_get hx ck_Mo 5 (by decide) t_1423 (by decide) (sh_111 _ _) rfl d_Mo_opensOne_46 ?_
      refine j_if_ne (tgt := 56) hx d_Mo_opensOne_49 (by decide) (fun zc49 => ?_) (fun zc49 => ?_)
      · skip
        refine j_iconst (v := 0) hx d_Mo_opensOne_56 (by decide) ?_
        exact j_iret hx hq rfl d_Mo_opensOne_57 (by first | (rw [eg_1] at zc49; first | exact (b2_t zc49).symm | exact (b2_f zc49).symm) | fail) (by first | (rw [eg_1]) | fail)
      · skip
        refine j_iconst (v := 1) hx d_Mo_opensOne_52 (by decide) ?_
        refine j_goto (tgt := 57) hx d_Mo_opensOne_53 (by decide) ?_
        exact j_iret hx hq rfl d_Mo_opensOne_57 (by first | (rw [eg_1] at zc49; first | exact (b2_t zc49).symm | exact (b2_f zc49).symm) | fail) (by first | (rw [eg_1]) | fail)
  · skip
    refine j_aload_n hx d_Mo_opensOne_7 rfl 0 rfl ?_
    refine j_get hx ck_Mo 8 (by decide) t_1426 (by decide) (sh_111 _ _) rfl d_Mo_opensOne_8 ?_
    refine j_bipush (v := 6) hx d_Mo_opensOne_11 (by decide) ?_
    refine j_icmp_ne (tgt := 28) hx d_Mo_opensOne_13 (by decide) (fun zc13 => ?_) (fun zc13 => ?_)
    · skip
      refine j_aload_n hx d_Mo_opensOne_28 rfl 0 rfl ?_
      refine j_get hx ck_Mo 5 (by decide) t_1423 (by decide) (sh_111 _ _) rfl d_Mo_opensOne_29 ?_
      refine j_if_ne (tgt := 45) hx d_Mo_opensOne_32 (by decide) (fun zc32 => ?_) (fun zc32 => ?_)
      · skip
        obtain ⟨s9_1, eg_1⟩ : ∃ z : St, z = mop σ := ⟨_, rfl⟩
        refine J.to (σ' := s9_1) (by rw [eg_1]; unfold mop; first | (rw [if_pos ⟨zc4, zc13⟩]; done) | (rw [if_neg (fun z : (σ 111 5 = 0 ∧ σ 111 8 = 6) => zc13 z.2), if_pos zc32]; done) | (rw [if_neg (fun z : (σ 111 5 = 0 ∧ σ 111 8 = 6) => zc4 z.1), if_neg zc32]; done) | exact absurd zc4 zc32 | exact absurd zc32 zc4) rfl ?_
        refine j_aload_n hx d_Mo_opensOne_45 rfl 0 rfl ?_
        refine j_get hx ck_Mo 5 (by decide) t_1423 (by decide) (sh_111 _ _) rfl d_Mo_opensOne_46 ?_
        refine j_if_ne (tgt := 56) hx d_Mo_opensOne_49 (by decide) (fun zc49 => ?_) (fun zc49 => ?_)
        · skip
          refine j_iconst (v := 0) hx d_Mo_opensOne_56 (by decide) ?_
          exact j_iret hx hq rfl d_Mo_opensOne_57 (by first | (rw [eg_1] at zc49; first | exact (b2_t zc49).symm | exact (b2_f zc49).symm) | fail) (by first | (rw [eg_1]) | fail)
        · skip
          refine j_iconst (v := 1) hx d_Mo_opensOne_52 (by decide) ?_
          refine j_goto (tgt := 57) hx d_Mo_opensOne_53 (by decide) ?_
          exact j_iret hx hq rfl d_Mo_opensOne_57 (by first | (rw [eg_1] at zc49; first | exact (b2_t zc49).symm | exact (b2_f zc49).symm) | fail) (by first | (rw [eg_1]) | fail)
      · skip
        refine j_aload_n hx d_Mo_opensOne_35 rfl 0 rfl ?_
        refine j_dup hx d_Mo_opensOne_36 rfl ?_
        refine j_get hx ck_Mo 8 (by decide) t_1426 (by decide) (sh_111 _ _) rfl d_Mo_opensOne_37 ?_
        refine j_iconst (v := 1) hx d_Mo_opensOne_40 (by decide) ?_
        refine j_iadd hx d_Mo_opensOne_41 ?_
        refine j_put hx ck_Mo 8 (by decide) t_1426 (by decide) (sh_111 _ _) rfl (Nat.le_of_ble_eq_true rfl) (sh_111 _ _) d_Mo_opensOne_42 ?_
        obtain ⟨s9_1, eg_1⟩ : ∃ z : St, z = mop σ := ⟨_, rfl⟩
        refine J.to (σ' := s9_1) (by rw [eg_1]; unfold mop; first | (rw [if_pos ⟨zc4, zc13⟩]; done) | (rw [if_neg (fun z : (σ 111 5 = 0 ∧ σ 111 8 = 6) => zc13 z.2), if_pos zc32]; done) | (rw [if_neg (fun z : (σ 111 5 = 0 ∧ σ 111 8 = 6) => zc4 z.1), if_neg zc32]; done) | exact absurd zc4 zc32 | exact absurd zc32 zc4) rfl ?_
        refine j_aload_n hx d_Mo_opensOne_45 rfl 0 rfl ?_
        refine j_get hx ck_Mo 5 (by decide) t_1423 (by decide) (sh_111 _ _) rfl d_Mo_opensOne_46 ?_
        refine j_if_ne (tgt := 56) hx d_Mo_opensOne_49 (by decide) (fun zc49 => ?_) (fun zc49 => ?_)
        · skip
          refine j_iconst (v := 0) hx d_Mo_opensOne_56 (by decide) ?_
          exact j_iret hx hq rfl d_Mo_opensOne_57 (by first | (rw [eg_1] at zc49; first | exact (b2_t zc49).symm | exact (b2_f zc49).symm) | fail) (by first | (rw [eg_1]) | fail)
        · skip
          refine j_iconst (v := 1) hx d_Mo_opensOne_52 (by decide) ?_
          refine j_goto (tgt := 57) hx d_Mo_opensOne_53 (by decide) ?_
          exact j_iret hx hq rfl d_Mo_opensOne_57 (by first | (rw [eg_1] at zc49; first | exact (b2_t zc49).symm | exact (b2_f zc49).symm) | fail) (by first | (rw [eg_1]) | fail)
    · skip
      refine j_aload_n hx d_Mo_opensOne_16 rfl 0 rfl ?_
      refine j_iconst (v := 3) hx d_Mo_opensOne_17 (by decide) ?_
      refine j_aload_n hx d_Mo_opensOne_18 rfl 0 rfl ?_
      refine j_get hx ck_Mo 4 (by decide) t_1422 (by decide) (sh_111 _ _) rfl d_Mo_opensOne_19 ?_
      refine j_callVv hx (c_Mo_wrong hG σ 3 (σ 111 4)) mo_Mo_wrong mv_Mo_wrong t_1622 (by decide) rfl (by decide) (sh_111 _ _) rfl rfl (Nat.le_of_ble_eq_true rfl) d_Mo_opensOne_22 ?_
      refine j_goto (tgt := 45) hx d_Mo_opensOne_25 (by decide) ?_
      obtain ⟨s9_1, eg_1⟩ : ∃ z : St, z = mop σ := ⟨_, rfl⟩
      refine J.to (σ' := s9_1) (by rw [eg_1]; unfold mop; first | (rw [if_pos ⟨zc4, zc13⟩]; done) | (rw [if_neg (fun z : (σ 111 5 = 0 ∧ σ 111 8 = 6) => zc13 z.2), if_pos zc32]; done) | (rw [if_neg (fun z : (σ 111 5 = 0 ∧ σ 111 8 = 6) => zc4 z.1), if_neg zc32]; done) | exact absurd zc4 zc32 | exact absurd zc32 zc4) rfl ?_
      refine j_aload_n hx d_Mo_opensOne_45 rfl 0 rfl ?_
      refine j_get hx ck_Mo 5 (by decide) t_1423 (by decide) (sh_111 _ _) rfl d_Mo_opensOne_46 ?_
      refine j_if_ne (tgt := 56) hx d_Mo_opensOne_49 (by decide) (fun zc49 => ?_) (fun zc49 => ?_)
      · skip
        refine j_iconst (v := 0) hx d_Mo_opensOne_56 (by decide) ?_
        exact j_iret hx hq rfl d_Mo_opensOne_57 (by first | (rw [eg_1] at zc49; first | exact (b2_t zc49).symm | exact (b2_f zc49).symm) | fail) (by first | (rw [eg_1]) | fail)
      · skip
        refine j_iconst (v := 1) hx d_Mo_opensOne_52 (by decide) ?_
        refine j_goto (tgt := 57) hx d_Mo_opensOne_53 (by decide) ?_
        exact j_iret hx hq rfl d_Mo_opensOne_57 (by first | (rw [eg_1] at zc49; first | exact (b2_t zc49).symm | exact (b2_f zc49).symm) | fail) (by first | (rw [eg_1]) | fail)

