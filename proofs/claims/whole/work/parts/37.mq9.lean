theorem mkV_rng {t : St} : mkV t = -1 ∨ mkV t = 0 ∨ mkV t = 1 ∨ mkV t = 2 ∨ mkV t = 3 ∨ mkV t = 4 ∨ mkV t = 5 := by
  unfold mkV
  repeat' split
  all_goals simp
/-- how many are read: within what may be -/
def rtW (f : Nat → Int32) : Prop := (0 ≤ (f 0).toInt ∧ (f 0).toInt ≤ 12) ∧ (0 ≤ (f 1).toInt ∧ (f 1).toInt ≤ 6) ∧ (0 ≤ (f 2).toInt ∧ (f 2).toInt ≤ 3) ∧ (0 ≤ (f 3).toInt ∧ (f 3).toInt ≤ 6) ∧ (0 ≤ (f 4).toInt ∧ (f 4).toInt ≤ 6)
def mcA (t : St) (j : Nat) (most : Int32) : St := if t 111 7 = 60 ∨ t 114 j = most then wr (mbz t) 3 (mbz t 111 4) else mbz t
def mcA5 (t : St) : St := if t 111 7 = 60 then wr (mbz t) 3 (mbz t 111 4) else mbz t
def mc3 (t : St) : St := up (msk t) 111 7 (msk t 111 7 + 1)
abbrev nn (t : St) (k : Nat) : Nat := (t 114 k).toInt.toNat
def mnO (t : St) (o k : Nat) (lo hi : Int32) : St := up (mnS t lo hi) o k (mnV t lo hi)
def mcB0 (t : St) : St := mnO t 116 (nn t 0) 0 9
def mcB2 (q k : Nat) (t : St) : St := mnO (mnO t (q + nn t k) 0 0 (t 114 0 - 1)) (q + nn t k) 1 1 9
def mcB3 (t : St) : St := mnO (mnO (mnO (mnO t (155 + nn t 3) 0 0 40) (155 + nn t 3) 1 0 9) (155 + nn t 3) 2 0 9) (155 + nn t 3) 3 0 9
def mcB4 (t : St) : St := mnO t 118 (nn t 4) 1 9
def mcB5 (t : St) : St := if mnS t 0 5 111 5 = 0 then up (mnS t 0 5) 114 5 (mnV t 0 5) else mnS t 0 5
def mcC (t : St) (k : Nat) : St := up t 114 k (t 114 k + (if t 111 5 = 0 then 1 else 0))
def mcE (t : St) (B C : St → St) : St := if t 111 5 = 0 then msg (C (B (mc3 t))) 59 else t
def mclS (t : St) : St := if mkV t = -1 then mcE (wr (mbz t) 1 (mbz t 111 4)) id id else if mkV t = 0 then mcE (mcA t 0 12) mcB0 (fun u => mcC u 0) else if mkV t = 1 then mcE (mcA t 1 6) (mcB2 137 1) (fun u => mcC u 1) else if mkV t = 2 then mcE (mcA t 2 3) (mcB2 149 2) (fun u => mcC u 2) else if mkV t = 3 then mcE (mcA t 3 6) mcB3 (fun u => mcC u 3) else if mkV t = 4 then mcE (mcA t 4 6) mcB4 (fun u => mcC u 4) else mcE (mcA5 t) mcB5 id
theorem mbz_o {t : St} {o : Nat} (h : o ≠ 111) : mbz t o = t o := by
  unfold mbz; split
  · exact mbl_o h
  · rfl
theorem mbz_k {t : St} {f : Nat} (h : f ≠ 4) : mbz t 111 f = t 111 f := by
  unfold mbz; split
  · exact mbl_k h
  · rfl
theorem mnS_o {t : St} {lo hi : Int32} {o : Nat} (h : o ≠ 111) : mnS t lo hi o = t o := by
  unfold mnS mn3 mn2; split
  · split
    · rw [wr_o h, up_o h, mn1_o h]
    · rw [up_o h, mn1_o h]
  · rfl
theorem mnO_p {t : St} {o k : Nat} {lo hi : Int32} (h : pB t) (ho : o ≠ 111) : pB (mnO t o k lo hi) := by
  have := mnS_p (lo := lo) (hi := hi) h
  unfold mnO pB; rw [up_o (Ne.symm ho)]; exact this
theorem mnO_o {t : St} {o k q : Nat} {lo hi : Int32} (h : q ≠ 111) (ho : q ≠ o) : mnO t o k lo hi q = t q := by unfold mnO; rw [up_o ho, mnS_o h]
theorem mc3_p {t : St} (h : pB t) : pB (mc3 t) := by
  have := msk_p h
  unfold mc3 pB; rw [up_k (by decide), up_k (by decide)]; exact this
theorem mc3_o {t : St} {o : Nat} (h : o ≠ 111) : mc3 t o = t o := by unfold mc3 msk; rw [up_o h, up_o h]
theorem mcA_p {t : St} {j : Nat} {most : Int32} (h : pB t) : pB (mcA t j most) := by
  unfold mcA; split
  · exact wr_p (mbz_p h)
  · exact mbz_p h
theorem mcA_o {t : St} {j : Nat} {most : Int32} {o : Nat} (h : o ≠ 111) : mcA t j most o = t o := by
  unfold mcA; split
  · rw [wr_o h, mbz_o h]
  · exact mbz_o h
theorem mcA_f {t : St} {j : Nat} {most : Int32} (h : mcA t j most 111 5 = 0) : ¬ t 114 j = most ∧ ¬ t 111 7 = 60 := by
  unfold mcA at h
  split at h
  · exfalso
    unfold wr at h
    split at h
    · rw [up_k (by decide), up_rd] at h; exact absurd h (by decide)
    · contradiction
  · rename_i z; exact ⟨fun q => z (Or.inr q), fun q => z (Or.inl q)⟩
theorem mcA5_p {t : St} (h : pB t) : pB (mcA5 t) := by
  unfold mcA5; split
  · exact wr_p (mbz_p h)
  · exact mbz_p h
theorem nn_lt {x m : Int32} {n : Nat} (h1 : 0 ≤ x.toInt) (h2 : x.toInt ≤ (n : Int)) (hm : m.toInt = n) (hne : ¬ x = m) : zin x n x.toInt.toNat := by
  have : x.toInt ≠ m.toInt := fun z => hne (Int32.toInt_inj.mp z)
  exact zin_of h1 (by omega)
theorem wr_5 {t : St} {p k : Int32} (hk : ¬ k = 0) : ¬ wr t k p 111 5 = 0 := by
  unfold wr; split
  · rw [up_k (by decide), up_rd]; exact hk
  · assumption
theorem mcB5_p {t : St} (h : pB t) : pB (mcB5 t) := by
  unfold mcB5; split
  · have := mnS_p (lo := 0) (hi := 5) h
    unfold pB; rw [up_o (by decide)]; exact this
  · exact mnS_p h

set_option maxRecDepth 20000 in
set_option maxHeartbeats 600000 in
theorem c_Mo_clause {l : Launch} {G : Gz} (hG : zI G) (σ : St) (hp : pB σ) (hT : rtW (σ 114)) : MV l G y_Mo_clause prog_14_method_27_code 5 6 [.ref (G.1 111)] σ (mclS σ) := by
  refine MV.of hG (by decide) (Nat.le_of_ble_eq_true rfl) (fun X hx hq => ?_)
  show J l G X 5 σ 0 [(0, .ref (G.1 111))] []
  refine j_aload_n hx d_Mo_clause_0 rfl 0 rfl ?_
  refine j_callVi hx (c_Mo_kindHere hG σ (by exact hp)) mo_Mo_kindHere mv_Mo_kindHere t_1604 (by decide) rfl (by decide) (sh_111 _ _) rfl rfl (Nat.le_of_ble_eq_true rfl) d_Mo_clause_1 ?_
  refine j_istore_n hx [(1, .int (mkV σ)), (0, .ref (G.1 111))] d_Mo_clause_4 rfl (by decide) rfl ?_
  by_cases hkm1 : mkV σ = (-1)
  · skip
    refine J.to (ls' := [(1, .int ((-1))), (0, .ref (G.1 111))]) rfl (by rw [hkm1]) ?_
    refine j_iload_n hx d_Mo_clause_5 rfl 0 rfl ?_
    refine j_iconst (v := (-1)) hx d_Mo_clause_6 (by decide) ?_
    refine j_icmp_ne (tgt := 22) hx d_Mo_clause_7 (by decide) (fun zc7 => absurd rfl zc7) (fun _ => ?_)
    refine j_aload_n hx d_Mo_clause_10 rfl 1 rfl ?_
    refine j_iconst (v := 1) hx d_Mo_clause_11 (by decide) ?_
    refine j_aload_n hx d_Mo_clause_12 rfl 1 rfl ?_
    refine j_get hx ck_Mo 4 (by decide) t_1422 (by decide) (sh_111 _ _) rfl d_Mo_clause_13 ?_
    refine j_callVv hx (c_Mo_wrong hG (mbz σ) 1 ((mbz σ) 111 4)) mo_Mo_wrong mv_Mo_wrong t_1622 (by decide) rfl (by decide) (sh_111 _ _) rfl rfl (Nat.le_of_ble_eq_true rfl) d_Mo_clause_16 ?_
    refine j_goto (tgt := 58) hx d_Mo_clause_19 (by decide) ?_
    obtain ⟨s9_1, eg_1⟩ : ∃ z : St, z = wr (mbz σ) 1 (mbz σ 111 4) := ⟨_, rfl⟩
    refine J.to (σ' := s9_1) (by rw [eg_1]; first | done | rfl) rfl ?_
    have hp1 : pB s9_1 := by rw [eg_1]; exact wr_p (mbz_p hp)
    refine j_aload_n hx d_Mo_clause_58 rfl 1 rfl ?_
    refine j_get hx ck_Mo 5 (by decide) t_1423 (by decide) (sh_111 _ _) rfl d_Mo_clause_59 ?_
    refine j_if_eq (tgt := 66) hx d_Mo_clause_62 (by decide) (fun zc62 => ?_) (fun zc62 => ?_)
    · exact absurd zc62 (by rw [eg_1]; exact wr_5 (by decide))
    · skip
      exact j_vret hx hq d_Mo_clause_65 (by first | (unfold mclS; rw [if_pos hkm1]; unfold mcE; rw [← eg_1]; exact (if_neg zc62).symm) | fail)
  by_cases hk0 : mkV σ = 0
  · skip
    refine J.to (ls' := [(1, .int 0), (0, .ref (G.1 111))]) rfl (by rw [hk0]) ?_
    refine j_iload_n hx d_Mo_clause_5 rfl 0 rfl ?_
    refine j_iconst (v := (-1)) hx d_Mo_clause_6 (by decide) ?_
    refine j_icmp_ne (tgt := 22) hx d_Mo_clause_7 (by decide) (fun _ => ?_) (fun zc7 => absurd zc7 (by decide))
    refine j_aload_n hx d_Mo_clause_22 rfl 1 rfl ?_
    refine j_get hx ck_Mo 7 (by decide) t_1425 (by decide) (sh_111 _ _) rfl d_Mo_clause_23 ?_
    refine j_bipush (v := 60) hx d_Mo_clause_26 (by decide) ?_
    refine j_icmp_eq (tgt := 49) hx d_Mo_clause_28 (by decide) (fun zc28 => ?_) (fun zc28 => ?_)
    · skip
      refine j_aload_n hx d_Mo_clause_49 rfl 1 rfl ?_
      refine j_iconst (v := 3) hx d_Mo_clause_50 (by decide) ?_
      refine j_aload_n hx d_Mo_clause_51 rfl 1 rfl ?_
      refine j_get hx ck_Mo 4 (by decide) t_1422 (by decide) (sh_111 _ _) rfl d_Mo_clause_52 ?_
      refine j_callVv hx (c_Mo_wrong hG (mbz σ) 3 ((mbz σ) 111 4)) mo_Mo_wrong mv_Mo_wrong t_1622 (by decide) rfl (by decide) (sh_111 _ _) rfl rfl (Nat.le_of_ble_eq_true rfl) d_Mo_clause_55 ?_
      obtain ⟨s9_1, eg_1⟩ : ∃ z : St, z = mcA σ 0 12 := ⟨_, rfl⟩
      refine J.to (σ' := s9_1) (by rw [eg_1]; rw [mbz_k (by decide)] at zc28; unfold mcA; first | (rw [if_pos (Or.inl zc28)]; done) | (rw [mbz_o (by decide)] at zc46; first | (rw [if_pos (show σ 111 7 = 60 ∨ σ 114 0 = 12 from Or.inr zc46)]; done) | (rw [if_neg (show ¬ (σ 111 7 = 60 ∨ σ 114 0 = 12) from fun z => z.elim zc28 zc46)]; done))) rfl ?_
      have hp1 : pB s9_1 := by rw [eg_1]; exact mcA_p hp
      have ho1 : s9_1 114 = σ 114 := by rw [eg_1]; exact mcA_o (by decide)
      refine j_aload_n hx d_Mo_clause_58 rfl 1 rfl ?_
      refine j_get hx ck_Mo 5 (by decide) t_1423 (by decide) (sh_111 _ _) rfl d_Mo_clause_59 ?_
      refine j_if_eq (tgt := 66) hx d_Mo_clause_62 (by decide) (fun zc62 => ?_) (fun zc62 => ?_)
      · skip
        refine j_aload_n hx d_Mo_clause_66 rfl 1 rfl ?_
        refine j_callVv hx (c_Mo_skipWord hG s9_1 (by exact hp1)) mo_Mo_skipWord mv_Mo_skipWord t_1629 (by decide) rfl (by decide) (sh_111 _ _) rfl rfl (Nat.le_of_ble_eq_true rfl) d_Mo_clause_67 ?_
        refine j_aload_n hx d_Mo_clause_70 rfl 1 rfl ?_
        refine j_dup hx d_Mo_clause_71 rfl ?_
        refine j_get hx ck_Mo 7 (by decide) t_1425 (by decide) (sh_111 _ _) rfl d_Mo_clause_72 ?_
        refine j_iconst (v := 1) hx d_Mo_clause_75 (by decide) ?_
        refine j_iadd hx d_Mo_clause_76 ?_
        refine j_put hx ck_Mo 7 (by decide) t_1425 (by decide) (sh_111 _ _) rfl (Nat.le_of_ble_eq_true rfl) (sh_111 _ _) d_Mo_clause_77 ?_
        obtain ⟨s9_2, eg_2⟩ : ∃ z : St, z = mc3 s9_1 := ⟨_, rfl⟩
        refine J.to (σ' := s9_2) (by rw [eg_2]; first | done | rfl) rfl ?_
        have hp2 : pB s9_2 := by rw [eg_2]; exact mc3_p hp1
        have ho2 : s9_2 114 = σ 114 := by rw [eg_2, mc3_o (by decide), ho1]
        have hne := (mcA_f (t := σ) (j := 0) (most := 12) (by rw [← eg_1]; first | exact zc62 | exact Decidable.not_not.mp zc62)).1
        have hzn : zin (s9_2 114 0) 12 (nn s9_2 0) := by unfold nn; rw [ho2]; exact nn_lt (m := 12) hT.1.1 hT.1.2 rfl hne
        refine j_aload_n hx d_Mo_clause_80 rfl 1 rfl ?_
        refine j_get hx ck_Mo 11 (by decide) t_1429 (by decide) (sh_111 _ _) rfl d_Mo_clause_81 ?_
        refine j_iload_n hx d_Mo_clause_84 rfl 0 rfl ?_
        have hz85_1 : zin (0) 6 0 := by first | exact ⟨rfl, by decide⟩ | exact zin_nI (by omega) (by first | decide | omega) | exact zin_of (by omega) (by omega)
        refine j_ialdk hx ia_114 hz85_1 d_Mo_clause_85 ?_
        refine j_istore_n hx [(2, .int (s9_2 114 0)), (1, .int 0), (0, .ref (G.1 111))] d_Mo_clause_86 rfl (by decide) rfl ?_
        refine j_iload_n hx d_Mo_clause_87 rfl 1 rfl ?_
        refine j_tableIn (x := 0) (tgt := 124) (off := 36) hx d_Mo_clause_88 (by decide) (by decide) (by decide) (by decide) ?_
        refine j_aload_n hx d_Mo_clause_124 rfl 2 rfl ?_
        refine j_get hx ck_Mo 13 (by decide) t_1431 (by decide) (sh_111 _ _) rfl d_Mo_clause_125 ?_
        refine j_iload_n hx d_Mo_clause_128 rfl 0 rfl ?_
        refine j_aload_n hx d_Mo_clause_129 rfl 2 rfl ?_
        refine j_iconst (v := 0) hx d_Mo_clause_130 (by decide) ?_
        refine j_bipush (v := 9) hx d_Mo_clause_131 (by decide) ?_
        refine j_callVi hx (c_Mo_number hG s9_2 0 9 (by exact hp2)) mo_Mo_number mv_Mo_number t_1633 (by decide) rfl (by decide) (sh_111 _ _) rfl rfl (Nat.le_of_ble_eq_true rfl) d_Mo_clause_133 ?_
        have hz136_2 : zin (s9_2 114 0) 12 ((nn s9_2 0)) := by unfold nn at hzn; first | exact hzn | (rw [show (s9_2 114 0) = s9_2 114 0 from rfl]; exact hzn)
        refine j_iastk hx ia_116 hz136_2 d_Mo_clause_136 ?_
        obtain ⟨s9_3, eg_3⟩ : ∃ z : St, z = mcB0 s9_2 := ⟨_, rfl⟩
        refine J.to (σ' := s9_3) (by rw [eg_3]; first | done | rfl) rfl ?_
        have hp3 : pB s9_3 := by rw [eg_3]; exact mnO_p hp2 (by decide)
        have ho3 : s9_3 114 = σ 114 := by rw [eg_3]; unfold mcB0; rw [mnO_o (by decide) (by decide), ho2]
        refine j_goto (tgt := 276) hx d_Mo_clause_137 (by decide) ?_
        refine j_iload_n hx d_Mo_clause_276 rfl 1 rfl ?_
        refine j_iconst (v := 5) hx d_Mo_clause_277 (by decide) ?_
        refine j_icmp_ge (tgt := 302) hx d_Mo_clause_278 (by decide) (fun zc278 => absurd zc278 (by decide)) (fun _ => ?_)
        refine j_aload_n hx d_Mo_clause_281 rfl 2 rfl ?_
        refine j_get hx ck_Mo 11 (by decide) t_1429 (by decide) (sh_111 _ _) rfl d_Mo_clause_282 ?_
        refine j_iload_n hx d_Mo_clause_285 rfl 1 rfl ?_
        refine j_dup2_11 hx d_Mo_clause_286 rfl rfl ?_
        have hz287_3 : zin (0) 6 0 := by first | exact ⟨rfl, by decide⟩ | exact zin_nI (by omega) (by first | decide | omega) | exact zin_of (by omega) (by omega)
        refine j_ialdk hx ia_114 hz287_3 d_Mo_clause_287 ?_
        refine j_aload_n hx d_Mo_clause_288 rfl 2 rfl ?_
        refine j_get hx ck_Mo 5 (by decide) t_1423 (by decide) (sh_111 _ _) rfl d_Mo_clause_289 ?_
        refine j_if_ne (tgt := 299) hx d_Mo_clause_292 (by decide) (fun zc292 => ?_) (fun zc292 => ?_)
        · skip
          refine j_iconst (v := 0) hx d_Mo_clause_299 (by decide) ?_
          refine j_iadd hx d_Mo_clause_300 ?_
          have hz301_4 : zin (0) 6 0 := by first | exact ⟨rfl, by decide⟩ | exact zin_nI (by omega) (by first | decide | omega) | exact zin_of (by omega) (by omega)
          refine j_iastk hx ia_114 hz301_4 d_Mo_clause_301 ?_
          obtain ⟨s9_4, eg_4⟩ : ∃ z : St, z = mcC s9_3 0 := ⟨_, rfl⟩
          refine J.to (σ' := s9_4) (by rw [eg_4]; unfold mcC; first | (rw [if_pos zc292]; done) | (rw [if_neg zc292]; done)) rfl ?_
          have hpz : pB s9_4 := by rw [eg_4]; unfold mcC pB; rw [up_o (by decide)]; exact hp3
          refine j_aload_n hx d_Mo_clause_302 rfl 2 rfl ?_
          refine j_bipush (v := 59) hx d_Mo_clause_303 (by decide) ?_
          refine j_callVv hx (c_Mo_sign hG s9_4 59 (by exact hpz)) mo_Mo_sign mv_Mo_sign t_1641 (by decide) rfl (by decide) (sh_111 _ _) rfl rfl (Nat.le_of_ble_eq_true rfl) d_Mo_clause_305 ?_
          exact j_vret hx hq d_Mo_clause_308 (by first | (first | (unfold mclS; rw [if_neg hkm1, if_pos hk0]; unfold mcE; rw [← eg_1, if_pos zc62, eg_4, eg_3, eg_2]; done) | (unfold mclS; rw [if_neg hkm1, if_pos hk0]; unfold mcE; rw [← eg_1, if_pos zc62, eg_4, eg_3, eg_2]; rfl)) | fail)
        · skip
          refine j_iconst (v := 1) hx d_Mo_clause_295 (by decide) ?_
          refine j_goto (tgt := 300) hx d_Mo_clause_296 (by decide) ?_
          refine j_iadd hx d_Mo_clause_300 ?_
          have hz301_5 : zin (0) 6 0 := by first | exact ⟨rfl, by decide⟩ | exact zin_nI (by omega) (by first | decide | omega) | exact zin_of (by omega) (by omega)
          refine j_iastk hx ia_114 hz301_5 d_Mo_clause_301 ?_
          obtain ⟨s9_4, eg_4⟩ : ∃ z : St, z = mcC s9_3 0 := ⟨_, rfl⟩
          refine J.to (σ' := s9_4) (by rw [eg_4]; unfold mcC; first | (rw [if_pos zc292]; done) | (rw [if_neg zc292]; done)) rfl ?_
          have hpz : pB s9_4 := by rw [eg_4]; unfold mcC pB; rw [up_o (by decide)]; exact hp3
          refine j_aload_n hx d_Mo_clause_302 rfl 2 rfl ?_
          refine j_bipush (v := 59) hx d_Mo_clause_303 (by decide) ?_
          refine j_callVv hx (c_Mo_sign hG s9_4 59 (by exact hpz)) mo_Mo_sign mv_Mo_sign t_1641 (by decide) rfl (by decide) (sh_111 _ _) rfl rfl (Nat.le_of_ble_eq_true rfl) d_Mo_clause_305 ?_
          exact j_vret hx hq d_Mo_clause_308 (by first | (first | (unfold mclS; rw [if_neg hkm1, if_pos hk0]; unfold mcE; rw [← eg_1, if_pos zc62, eg_4, eg_3, eg_2]; done) | (unfold mclS; rw [if_neg hkm1, if_pos hk0]; unfold mcE; rw [← eg_1, if_pos zc62, eg_4, eg_3, eg_2]; rfl)) | fail)
      · skip
        exact j_vret hx hq d_Mo_clause_65 (by first | (unfold mclS; rw [if_neg hkm1, if_pos hk0]; unfold mcE; rw [← eg_1]; exact (if_neg zc62).symm) | fail)
    · skip
      refine j_iload_n hx d_Mo_clause_31 rfl 0 rfl ?_
      refine j_iconst (v := 5) hx d_Mo_clause_32 (by decide) ?_
      refine j_icmp_ge (tgt := 58) hx d_Mo_clause_33 (by decide) (fun zc33 => absurd zc33 (by decide)) (fun _ => ?_)
      refine j_aload_n hx d_Mo_clause_36 rfl 1 rfl ?_
      refine j_get hx ck_Mo 11 (by decide) t_1429 (by decide) (sh_111 _ _) rfl d_Mo_clause_37 ?_
      refine j_iload_n hx d_Mo_clause_40 rfl 0 rfl ?_
      have hz41_6 : zin (0) 6 0 := by first | exact ⟨rfl, by decide⟩ | exact zin_nI (by omega) (by first | decide | omega) | exact zin_of (by omega) (by omega)
      refine j_ialdk hx ia_114 hz41_6 d_Mo_clause_41 ?_
      refine j_iload_n hx d_Mo_clause_42 rfl 0 rfl ?_
      refine j_callSi hx (c_Mo_mostOf hG (mbz σ) 0) mo_Mo_mostOf t_1627 t_1626 (by decide) rfl rfl (Nat.le_of_ble_eq_true rfl) d_Mo_clause_43 ?_
      refine j_icmp_ne (tgt := 58) hx d_Mo_clause_46 (by decide) (fun zc46 => ?_) (fun zc46 => ?_)
      · skip
        obtain ⟨s9_1, eg_1⟩ : ∃ z : St, z = mcA σ 0 12 := ⟨_, rfl⟩
        refine J.to (σ' := s9_1) (by rw [eg_1]; rw [mbz_k (by decide)] at zc28; unfold mcA; first | (rw [if_pos (Or.inl zc28)]; done) | (rw [mbz_o (by decide)] at zc46; first | (rw [if_pos (show σ 111 7 = 60 ∨ σ 114 0 = 12 from Or.inr zc46)]; done) | (rw [if_neg (show ¬ (σ 111 7 = 60 ∨ σ 114 0 = 12) from fun z => z.elim zc28 zc46)]; done))) rfl ?_
        have hp1 : pB s9_1 := by rw [eg_1]; exact mcA_p hp
        have ho1 : s9_1 114 = σ 114 := by rw [eg_1]; exact mcA_o (by decide)
        refine j_aload_n hx d_Mo_clause_58 rfl 1 rfl ?_
        refine j_get hx ck_Mo 5 (by decide) t_1423 (by decide) (sh_111 _ _) rfl d_Mo_clause_59 ?_
        refine j_if_eq (tgt := 66) hx d_Mo_clause_62 (by decide) (fun zc62 => ?_) (fun zc62 => ?_)
        · skip
          refine j_aload_n hx d_Mo_clause_66 rfl 1 rfl ?_
          refine j_callVv hx (c_Mo_skipWord hG s9_1 (by exact hp1)) mo_Mo_skipWord mv_Mo_skipWord t_1629 (by decide) rfl (by decide) (sh_111 _ _) rfl rfl (Nat.le_of_ble_eq_true rfl) d_Mo_clause_67 ?_
          refine j_aload_n hx d_Mo_clause_70 rfl 1 rfl ?_
          refine j_dup hx d_Mo_clause_71 rfl ?_
          refine j_get hx ck_Mo 7 (by decide) t_1425 (by decide) (sh_111 _ _) rfl d_Mo_clause_72 ?_
          refine j_iconst (v := 1) hx d_Mo_clause_75 (by decide) ?_
          refine j_iadd hx d_Mo_clause_76 ?_
          refine j_put hx ck_Mo 7 (by decide) t_1425 (by decide) (sh_111 _ _) rfl (Nat.le_of_ble_eq_true rfl) (sh_111 _ _) d_Mo_clause_77 ?_
          obtain ⟨s9_2, eg_2⟩ : ∃ z : St, z = mc3 s9_1 := ⟨_, rfl⟩
          refine J.to (σ' := s9_2) (by rw [eg_2]; first | done | rfl) rfl ?_
          have hp2 : pB s9_2 := by rw [eg_2]; exact mc3_p hp1
          have ho2 : s9_2 114 = σ 114 := by rw [eg_2, mc3_o (by decide), ho1]
          have hne := (mcA_f (t := σ) (j := 0) (most := 12) (by rw [← eg_1]; first | exact zc62 | exact Decidable.not_not.mp zc62)).1
          have hzn : zin (s9_2 114 0) 12 (nn s9_2 0) := by unfold nn; rw [ho2]; exact nn_lt (m := 12) hT.1.1 hT.1.2 rfl hne
          refine j_aload_n hx d_Mo_clause_80 rfl 1 rfl ?_
          refine j_get hx ck_Mo 11 (by decide) t_1429 (by decide) (sh_111 _ _) rfl d_Mo_clause_81 ?_
          refine j_iload_n hx d_Mo_clause_84 rfl 0 rfl ?_
          have hz85_7 : zin (0) 6 0 := by first | exact ⟨rfl, by decide⟩ | exact zin_nI (by omega) (by first | decide | omega) | exact zin_of (by omega) (by omega)
          refine j_ialdk hx ia_114 hz85_7 d_Mo_clause_85 ?_
          refine j_istore_n hx [(2, .int (s9_2 114 0)), (1, .int 0), (0, .ref (G.1 111))] d_Mo_clause_86 rfl (by decide) rfl ?_
          refine j_iload_n hx d_Mo_clause_87 rfl 1 rfl ?_
          refine j_tableIn (x := 0) (tgt := 124) (off := 36) hx d_Mo_clause_88 (by decide) (by decide) (by decide) (by decide) ?_
          refine j_aload_n hx d_Mo_clause_124 rfl 2 rfl ?_
          refine j_get hx ck_Mo 13 (by decide) t_1431 (by decide) (sh_111 _ _) rfl d_Mo_clause_125 ?_
          refine j_iload_n hx d_Mo_clause_128 rfl 0 rfl ?_
          refine j_aload_n hx d_Mo_clause_129 rfl 2 rfl ?_
          refine j_iconst (v := 0) hx d_Mo_clause_130 (by decide) ?_
          refine j_bipush (v := 9) hx d_Mo_clause_131 (by decide) ?_
          refine j_callVi hx (c_Mo_number hG s9_2 0 9 (by exact hp2)) mo_Mo_number mv_Mo_number t_1633 (by decide) rfl (by decide) (sh_111 _ _) rfl rfl (Nat.le_of_ble_eq_true rfl) d_Mo_clause_133 ?_
          have hz136_8 : zin (s9_2 114 0) 12 ((nn s9_2 0)) := by unfold nn at hzn; first | exact hzn | (rw [show (s9_2 114 0) = s9_2 114 0 from rfl]; exact hzn)
          refine j_iastk hx ia_116 hz136_8 d_Mo_clause_136 ?_
          obtain ⟨s9_3, eg_3⟩ : ∃ z : St, z = mcB0 s9_2 := ⟨_, rfl⟩
          refine J.to (σ' := s9_3) (by rw [eg_3]; first | done | rfl) rfl ?_
          have hp3 : pB s9_3 := by rw [eg_3]; exact mnO_p hp2 (by decide)
          have ho3 : s9_3 114 = σ 114 := by rw [eg_3]; unfold mcB0; rw [mnO_o (by decide) (by decide), ho2]
          refine j_goto (tgt := 276) hx d_Mo_clause_137 (by decide) ?_
          refine j_iload_n hx d_Mo_clause_276 rfl 1 rfl ?_
          refine j_iconst (v := 5) hx d_Mo_clause_277 (by decide) ?_
          refine j_icmp_ge (tgt := 302) hx d_Mo_clause_278 (by decide) (fun zc278 => absurd zc278 (by decide)) (fun _ => ?_)
          refine j_aload_n hx d_Mo_clause_281 rfl 2 rfl ?_
          refine j_get hx ck_Mo 11 (by decide) t_1429 (by decide) (sh_111 _ _) rfl d_Mo_clause_282 ?_
          refine j_iload_n hx d_Mo_clause_285 rfl 1 rfl ?_
          refine j_dup2_11 hx d_Mo_clause_286 rfl rfl ?_
          have hz287_9 : zin (0) 6 0 := by first | exact ⟨rfl, by decide⟩ | exact zin_nI (by omega) (by first | decide | omega) | exact zin_of (by omega) (by omega)
          refine j_ialdk hx ia_114 hz287_9 d_Mo_clause_287 ?_
          refine j_aload_n hx d_Mo_clause_288 rfl 2 rfl ?_
          refine j_get hx ck_Mo 5 (by decide) t_1423 (by decide) (sh_111 _ _) rfl d_Mo_clause_289 ?_
          refine j_if_ne (tgt := 299) hx d_Mo_clause_292 (by decide) (fun zc292 => ?_) (fun zc292 => ?_)
          · skip
            refine j_iconst (v := 0) hx d_Mo_clause_299 (by decide) ?_
            refine j_iadd hx d_Mo_clause_300 ?_
            have hz301_10 : zin (0) 6 0 := by first | exact ⟨rfl, by decide⟩ | exact zin_nI (by omega) (by first | decide | omega) | exact zin_of (by omega) (by omega)
            refine j_iastk hx ia_114 hz301_10 d_Mo_clause_301 ?_
            obtain ⟨s9_4, eg_4⟩ : ∃ z : St, z = mcC s9_3 0 := ⟨_, rfl⟩
            refine J.to (σ' := s9_4) (by rw [eg_4]; unfold mcC; first | (rw [if_pos zc292]; done) | (rw [if_neg zc292]; done)) rfl ?_
            have hpz : pB s9_4 := by rw [eg_4]; unfold mcC pB; rw [up_o (by decide)]; exact hp3
            refine j_aload_n hx d_Mo_clause_302 rfl 2 rfl ?_
            refine j_bipush (v := 59) hx d_Mo_clause_303 (by decide) ?_
            refine j_callVv hx (c_Mo_sign hG s9_4 59 (by exact hpz)) mo_Mo_sign mv_Mo_sign t_1641 (by decide) rfl (by decide) (sh_111 _ _) rfl rfl (Nat.le_of_ble_eq_true rfl) d_Mo_clause_305 ?_
            exact j_vret hx hq d_Mo_clause_308 (by first | (first | (unfold mclS; rw [if_neg hkm1, if_pos hk0]; unfold mcE; rw [← eg_1, if_pos zc62, eg_4, eg_3, eg_2]; done) | (unfold mclS; rw [if_neg hkm1, if_pos hk0]; unfold mcE; rw [← eg_1, if_pos zc62, eg_4, eg_3, eg_2]; rfl)) | fail)
          · skip
            refine j_iconst (v := 1) hx d_Mo_clause_295 (by decide) ?_
            refine j_goto (tgt := 300) hx d_Mo_clause_296 (by decide) ?_
            refine j_iadd hx d_Mo_clause_300 ?_
            have hz301_11 : zin (0) 6 0 := by first | exact ⟨rfl, by decide⟩ | exact zin_nI (by omega) (by first | decide | omega) | exact zin_of (by omega) (by omega)
            refine j_iastk hx ia_114 hz301_11 d_Mo_clause_301 ?_
            obtain ⟨s9_4, eg_4⟩ : ∃ z : St, z = mcC s9_3 0 := ⟨_, rfl⟩
            refine J.to (σ' := s9_4) (by rw [eg_4]; unfold mcC; first | (rw [if_pos zc292]; done) | (rw [if_neg zc292]; done)) rfl ?_
            have hpz : pB s9_4 := by rw [eg_4]; unfold mcC pB; rw [up_o (by decide)]; exact hp3
            refine j_aload_n hx d_Mo_clause_302 rfl 2 rfl ?_
            refine j_bipush (v := 59) hx d_Mo_clause_303 (by decide) ?_
            refine j_callVv hx (c_Mo_sign hG s9_4 59 (by exact hpz)) mo_Mo_sign mv_Mo_sign t_1641 (by decide) rfl (by decide) (sh_111 _ _) rfl rfl (Nat.le_of_ble_eq_true rfl) d_Mo_clause_305 ?_
            exact j_vret hx hq d_Mo_clause_308 (by first | (first | (unfold mclS; rw [if_neg hkm1, if_pos hk0]; unfold mcE; rw [← eg_1, if_pos zc62, eg_4, eg_3, eg_2]; done) | (unfold mclS; rw [if_neg hkm1, if_pos hk0]; unfold mcE; rw [← eg_1, if_pos zc62, eg_4, eg_3, eg_2]; rfl)) | fail)
        · skip
          exact j_vret hx hq d_Mo_clause_65 (by first | (unfold mclS; rw [if_neg hkm1, if_pos hk0]; unfold mcE; rw [← eg_1]; exact (if_neg zc62).symm) | fail)
      · skip
        refine j_aload_n hx d_Mo_clause_49 rfl 1 rfl ?_
        refine j_iconst (v := 3) hx d_Mo_clause_50 (by decide) ?_
        refine j_aload_n hx d_Mo_clause_51 rfl 1 rfl ?_
        refine j_get hx ck_Mo 4 (by decide) t_1422 (by decide) (sh_111 _ _) rfl d_Mo_clause_52 ?_
        refine j_callVv hx (c_Mo_wrong hG (mbz σ) 3 ((mbz σ) 111 4)) mo_Mo_wrong mv_Mo_wrong t_1622 (by decide) rfl (by decide) (sh_111 _ _) rfl rfl (Nat.le_of_ble_eq_true rfl) d_Mo_clause_55 ?_
        obtain ⟨s9_1, eg_1⟩ : ∃ z : St, z = mcA σ 0 12 := ⟨_, rfl⟩
        refine J.to (σ' := s9_1) (by rw [eg_1]; rw [mbz_k (by decide)] at zc28; unfold mcA; first | (rw [if_pos (Or.inl zc28)]; done) | (rw [mbz_o (by decide)] at zc46; first | (rw [if_pos (show σ 111 7 = 60 ∨ σ 114 0 = 12 from Or.inr zc46)]; done) | (rw [if_neg (show ¬ (σ 111 7 = 60 ∨ σ 114 0 = 12) from fun z => z.elim zc28 zc46)]; done))) rfl ?_
        have hp1 : pB s9_1 := by rw [eg_1]; exact mcA_p hp
        have ho1 : s9_1 114 = σ 114 := by rw [eg_1]; exact mcA_o (by decide)
        refine j_aload_n hx d_Mo_clause_58 rfl 1 rfl ?_
        refine j_get hx ck_Mo 5 (by decide) t_1423 (by decide) (sh_111 _ _) rfl d_Mo_clause_59 ?_
        refine j_if_eq (tgt := 66) hx d_Mo_clause_62 (by decide) (fun zc62 => ?_) (fun zc62 => ?_)
        · skip
          refine j_aload_n hx d_Mo_clause_66 rfl 1 rfl ?_
          refine j_callVv hx (c_Mo_skipWord hG s9_1 (by exact hp1)) mo_Mo_skipWord mv_Mo_skipWord t_1629 (by decide) rfl (by decide) (sh_111 _ _) rfl rfl (Nat.le_of_ble_eq_true rfl) d_Mo_clause_67 ?_
          refine j_aload_n hx d_Mo_clause_70 rfl 1 rfl ?_
          refine j_dup hx d_Mo_clause_71 rfl ?_
          refine j_get hx ck_Mo 7 (by decide) t_1425 (by decide) (sh_111 _ _) rfl d_Mo_clause_72 ?_
          refine j_iconst (v := 1) hx d_Mo_clause_75 (by decide) ?_
          refine j_iadd hx d_Mo_clause_76 ?_
          refine j_put hx ck_Mo 7 (by decide) t_1425 (by decide) (sh_111 _ _) rfl (Nat.le_of_ble_eq_true rfl) (sh_111 _ _) d_Mo_clause_77 ?_
          obtain ⟨s9_2, eg_2⟩ : ∃ z : St, z = mc3 s9_1 := ⟨_, rfl⟩
          refine J.to (σ' := s9_2) (by rw [eg_2]; first | done | rfl) rfl ?_
          have hp2 : pB s9_2 := by rw [eg_2]; exact mc3_p hp1
          have ho2 : s9_2 114 = σ 114 := by rw [eg_2, mc3_o (by decide), ho1]
          have hne := (mcA_f (t := σ) (j := 0) (most := 12) (by rw [← eg_1]; first | exact zc62 | exact Decidable.not_not.mp zc62)).1
          have hzn : zin (s9_2 114 0) 12 (nn s9_2 0) := by unfold nn; rw [ho2]; exact nn_lt (m := 12) hT.1.1 hT.1.2 rfl hne
          refine j_aload_n hx d_Mo_clause_80 rfl 1 rfl ?_
          refine j_get hx ck_Mo 11 (by decide) t_1429 (by decide) (sh_111 _ _) rfl d_Mo_clause_81 ?_
          refine j_iload_n hx d_Mo_clause_84 rfl 0 rfl ?_
          have hz85_12 : zin (0) 6 0 := by first | exact ⟨rfl, by decide⟩ | exact zin_nI (by omega) (by first | decide | omega) | exact zin_of (by omega) (by omega)
          refine j_ialdk hx ia_114 hz85_12 d_Mo_clause_85 ?_
          refine j_istore_n hx [(2, .int (s9_2 114 0)), (1, .int 0), (0, .ref (G.1 111))] d_Mo_clause_86 rfl (by decide) rfl ?_
          refine j_iload_n hx d_Mo_clause_87 rfl 1 rfl ?_
          refine j_tableIn (x := 0) (tgt := 124) (off := 36) hx d_Mo_clause_88 (by decide) (by decide) (by decide) (by decide) ?_
          refine j_aload_n hx d_Mo_clause_124 rfl 2 rfl ?_
          refine j_get hx ck_Mo 13 (by decide) t_1431 (by decide) (sh_111 _ _) rfl d_Mo_clause_125 ?_
          refine j_iload_n hx d_Mo_clause_128 rfl 0 rfl ?_
          refine j_aload_n hx d_Mo_clause_129 rfl 2 rfl ?_
          refine j_iconst (v := 0) hx d_Mo_clause_130 (by decide) ?_
          refine j_bipush (v := 9) hx d_Mo_clause_131 (by decide) ?_
          refine j_callVi hx (c_Mo_number hG s9_2 0 9 (by exact hp2)) mo_Mo_number mv_Mo_number t_1633 (by decide) rfl (by decide) (sh_111 _ _) rfl rfl (Nat.le_of_ble_eq_true rfl) d_Mo_clause_133 ?_
          have hz136_13 : zin (s9_2 114 0) 12 ((nn s9_2 0)) := by unfold nn at hzn; first | exact hzn | (rw [show (s9_2 114 0) = s9_2 114 0 from rfl]; exact hzn)
          refine j_iastk hx ia_116 hz136_13 d_Mo_clause_136 ?_
          obtain ⟨s9_3, eg_3⟩ : ∃ z : St, z = mcB0 s9_2 := ⟨_, rfl⟩
          refine J.to (σ' := s9_3) (by rw [eg_3]; first | done | rfl) rfl ?_
          have hp3 : pB s9_3 := by rw [eg_3]; exact mnO_p hp2 (by decide)
          have ho3 : s9_3 114 = σ 114 := by rw [eg_3]; unfold mcB0; rw [mnO_o (by decide) (by decide), ho2]
          refine j_goto (tgt := 276) hx d_Mo_clause_137 (by decide) ?_
          refine j_iload_n hx d_Mo_clause_276 rfl 1 rfl ?_
          refine j_iconst (v := 5) hx d_Mo_clause_277 (by decide) ?_
          refine j_icmp_ge (tgt := 302) hx d_Mo_clause_278 (by decide) (fun zc278 => absurd zc278 (by decide)) (fun _ => ?_)
          refine j_aload_n hx d_Mo_clause_281 rfl 2 rfl ?_
          refine j_get hx ck_Mo 11 (by decide) t_1429 (by decide) (sh_111 _ _) rfl d_Mo_clause_282 ?_
          refine j_iload_n hx d_Mo_clause_285 rfl 1 rfl ?_
          refine j_dup2_11 hx d_Mo_clause_286 rfl rfl ?_
          have hz287_14 : zin (0) 6 0 := by first | exact ⟨rfl, by decide⟩ | exact zin_nI (by omega) (by first | decide | omega) | exact zin_of (by omega) (by omega)
          refine j_ialdk hx ia_114 hz287_14 d_Mo_clause_287 ?_
          refine j_aload_n hx d_Mo_clause_288 rfl 2 rfl ?_
          refine j_get hx ck_Mo 5 (by decide) t_1423 (by decide) (sh_111 _ _) rfl d_Mo_clause_289 ?_
          refine j_if_ne (tgt := 299) hx d_Mo_clause_292 (by decide) (fun zc292 => ?_) (fun zc292 => ?_)
          · skip
            refine j_iconst (v := 0) hx d_Mo_clause_299 (by decide) ?_
            refine j_iadd hx d_Mo_clause_300 ?_
            have hz301_15 : zin (0) 6 0 := by first | exact ⟨rfl, by decide⟩ | exact zin_nI (by omega) (by first | decide | omega) | exact zin_of (by omega) (by omega)
            refine j_iastk hx ia_114 hz301_15 d_Mo_clause_301 ?_
            obtain ⟨s9_4, eg_4⟩ : ∃ z : St, z = mcC s9_3 0 := ⟨_, rfl⟩
            refine J.to (σ' := s9_4) (by rw [eg_4]; unfold mcC; first | (rw [if_pos zc292]; done) | (rw [if_neg zc292]; done)) rfl ?_
            have hpz : pB s9_4 := by rw [eg_4]; unfold mcC pB; rw [up_o (by decide)]; exact hp3
            refine j_aload_n hx d_Mo_clause_302 rfl 2 rfl ?_
            refine j_bipush (v := 59) hx d_Mo_clause_303 (by decide) ?_
            refine j_callVv hx (c_Mo_sign hG s9_4 59 (by exact hpz)) mo_Mo_sign mv_Mo_sign t_1641 (by decide) rfl (by decide) (sh_111 _ _) rfl rfl (Nat.le_of_ble_eq_true rfl) d_Mo_clause_305 ?_
            exact j_vret hx hq d_Mo_clause_308 (by first | (first | (unfold mclS; rw [if_neg hkm1, if_pos hk0]; unfold mcE; rw [← eg_1, if_pos zc62, eg_4, eg_3, eg_2]; done) | (unfold mclS; rw [if_neg hkm1, if_pos hk0]; unfold mcE; rw [← eg_1, if_pos zc62, eg_4, eg_3, eg_2]; rfl)) | fail)
          · skip
            refine j_iconst (v := 1) hx d_Mo_clause_295 (by decide) ?_
            refine j_goto (tgt := 300) hx d_Mo_clause_296 (by decide) ?_
            refine j_iadd hx d_Mo_clause_300 ?_
            have hz301_16 : zin (0) 6 0 := by first | exact ⟨rfl, by decide⟩ | exact zin_nI (by omega) (by first | decide | omega) | exact zin_of (by omega) (by omega)
            refine j_iastk hx ia_114 hz301_16 d_Mo_clause_301 ?_
            obtain ⟨s9_4, eg_4⟩ : ∃ z : St, z = mcC s9_3 0 := ⟨_, rfl⟩
            refine J.to (σ' := s9_4) (by rw [eg_4]; unfold mcC; first | (rw [if_pos zc292]; done) | (rw [if_neg zc292]; done)) rfl ?_
            have hpz : pB s9_4 := by rw [eg_4]; unfold mcC pB; rw [up_o (by decide)]; exact hp3
            refine j_aload_n hx d_Mo_clause_302 rfl 2 rfl ?_
            refine j_bipush (v := 59) hx d_Mo_clause_303 (by decide) ?_
            refine j_callVv hx (c_Mo_sign hG s9_4 59 (by exact hpz)) mo_Mo_sign mv_Mo_sign t_1641 (by decide) rfl (by decide) (sh_111 _ _) rfl rfl (Nat.le_of_ble_eq_true rfl) d_Mo_clause_305 ?_
            exact j_vret hx hq d_Mo_clause_308 (by first | (first | (unfold mclS; rw [if_neg hkm1, if_pos hk0]; unfold mcE; rw [← eg_1, if_pos zc62, eg_4, eg_3, eg_2]; done) | (unfold mclS; rw [if_neg hkm1, if_pos hk0]; unfold mcE; rw [← eg_1, if_pos zc62, eg_4, eg_3, eg_2]; rfl)) | fail)
        · skip
          exact j_vret hx hq d_Mo_clause_65 (by first | (unfold mclS; rw [if_neg hkm1, if_pos hk0]; unfold mcE; rw [← eg_1]; exact (if_neg zc62).symm) | fail)
  by_cases hk1 : mkV σ = 1
  · skip
    refine J.to (ls' := [(1, .int 1), (0, .ref (G.1 111))]) rfl (by rw [hk1]) ?_
    refine j_iload_n hx d_Mo_clause_5 rfl 0 rfl ?_
    refine j_iconst (v := (-1)) hx d_Mo_clause_6 (by decide) ?_
    refine j_icmp_ne (tgt := 22) hx d_Mo_clause_7 (by decide) (fun _ => ?_) (fun zc7 => absurd zc7 (by decide))
    refine j_aload_n hx d_Mo_clause_22 rfl 1 rfl ?_
    refine j_get hx ck_Mo 7 (by decide) t_1425 (by decide) (sh_111 _ _) rfl d_Mo_clause_23 ?_
    refine j_bipush (v := 60) hx d_Mo_clause_26 (by decide) ?_
    refine j_icmp_eq (tgt := 49) hx d_Mo_clause_28 (by decide) (fun zc28 => ?_) (fun zc28 => ?_)
    · skip
      refine j_aload_n hx d_Mo_clause_49 rfl 1 rfl ?_
      refine j_iconst (v := 3) hx d_Mo_clause_50 (by decide) ?_
      refine j_aload_n hx d_Mo_clause_51 rfl 1 rfl ?_
      refine j_get hx ck_Mo 4 (by decide) t_1422 (by decide) (sh_111 _ _) rfl d_Mo_clause_52 ?_
      refine j_callVv hx (c_Mo_wrong hG (mbz σ) 3 ((mbz σ) 111 4)) mo_Mo_wrong mv_Mo_wrong t_1622 (by decide) rfl (by decide) (sh_111 _ _) rfl rfl (Nat.le_of_ble_eq_true rfl) d_Mo_clause_55 ?_
      obtain ⟨s9_1, eg_1⟩ : ∃ z : St, z = mcA σ 1 6 := ⟨_, rfl⟩
      refine J.to (σ' := s9_1) (by rw [eg_1]; rw [mbz_k (by decide)] at zc28; unfold mcA; first | (rw [if_pos (Or.inl zc28)]; done) | (rw [mbz_o (by decide)] at zc46; first | (rw [if_pos (show σ 111 7 = 60 ∨ σ 114 1 = 6 from Or.inr zc46)]; done) | (rw [if_neg (show ¬ (σ 111 7 = 60 ∨ σ 114 1 = 6) from fun z => z.elim zc28 zc46)]; done))) rfl ?_
      have hp1 : pB s9_1 := by rw [eg_1]; exact mcA_p hp
      have ho1 : s9_1 114 = σ 114 := by rw [eg_1]; exact mcA_o (by decide)
      refine j_aload_n hx d_Mo_clause_58 rfl 1 rfl ?_
      refine j_get hx ck_Mo 5 (by decide) t_1423 (by decide) (sh_111 _ _) rfl d_Mo_clause_59 ?_
      refine j_if_eq (tgt := 66) hx d_Mo_clause_62 (by decide) (fun zc62 => ?_) (fun zc62 => ?_)
      · skip
        refine j_aload_n hx d_Mo_clause_66 rfl 1 rfl ?_
        refine j_callVv hx (c_Mo_skipWord hG s9_1 (by exact hp1)) mo_Mo_skipWord mv_Mo_skipWord t_1629 (by decide) rfl (by decide) (sh_111 _ _) rfl rfl (Nat.le_of_ble_eq_true rfl) d_Mo_clause_67 ?_
        refine j_aload_n hx d_Mo_clause_70 rfl 1 rfl ?_
        refine j_dup hx d_Mo_clause_71 rfl ?_
        refine j_get hx ck_Mo 7 (by decide) t_1425 (by decide) (sh_111 _ _) rfl d_Mo_clause_72 ?_
        refine j_iconst (v := 1) hx d_Mo_clause_75 (by decide) ?_
        refine j_iadd hx d_Mo_clause_76 ?_
        refine j_put hx ck_Mo 7 (by decide) t_1425 (by decide) (sh_111 _ _) rfl (Nat.le_of_ble_eq_true rfl) (sh_111 _ _) d_Mo_clause_77 ?_
        obtain ⟨s9_2, eg_2⟩ : ∃ z : St, z = mc3 s9_1 := ⟨_, rfl⟩
        refine J.to (σ' := s9_2) (by rw [eg_2]; first | done | rfl) rfl ?_
        have hp2 : pB s9_2 := by rw [eg_2]; exact mc3_p hp1
        have ho2 : s9_2 114 = σ 114 := by rw [eg_2, mc3_o (by decide), ho1]
        have hne := (mcA_f (t := σ) (j := 1) (most := 6) (by rw [← eg_1]; first | exact zc62 | exact Decidable.not_not.mp zc62)).1
        have hzn : zin (s9_2 114 1) 6 (nn s9_2 1) := by unfold nn; rw [ho2]; exact nn_lt (m := 6) hT.2.1.1 hT.2.1.2 rfl hne
        refine j_aload_n hx d_Mo_clause_80 rfl 1 rfl ?_
        refine j_get hx ck_Mo 11 (by decide) t_1429 (by decide) (sh_111 _ _) rfl d_Mo_clause_81 ?_
        refine j_iload_n hx d_Mo_clause_84 rfl 0 rfl ?_
        have hz85_17 : zin (1) 6 1 := by first | exact ⟨rfl, by decide⟩ | exact zin_nI (by omega) (by first | decide | omega) | exact zin_of (by omega) (by omega)
        refine j_ialdk hx ia_114 hz85_17 d_Mo_clause_85 ?_
        refine j_istore_n hx [(2, .int (s9_2 114 1)), (1, .int 1), (0, .ref (G.1 111))] d_Mo_clause_86 rfl (by decide) rfl ?_
        refine j_iload_n hx d_Mo_clause_87 rfl 1 rfl ?_
        refine j_tableIn (x := 1) (tgt := 140) (off := 52) hx d_Mo_clause_88 (by decide) (by decide) (by decide) (by decide) ?_
        refine j_iload_n hx d_Mo_clause_140 rfl 1 rfl ?_
        refine j_iconst (v := 1) hx d_Mo_clause_141 (by decide) ?_
        refine j_icmp_ne (tgt := 154) hx d_Mo_clause_142 (by decide) (fun zc142 => absurd rfl zc142) (fun _ => ?_)
        refine j_aload_n hx d_Mo_clause_145 rfl 2 rfl ?_
        refine j_get hx ck_Mo 17 (by decide) t_1435 (by decide) (sh_111 _ _) rfl d_Mo_clause_146 ?_
        refine j_iload_n hx d_Mo_clause_149 rfl 0 rfl ?_
        have hz150_18 : zin (s9_2 114 1) 6 ((nn s9_2 1)) := by exact hzn
        refine j_aaldk hx ias_readLight.1.1 (ias_readLight.2.1 _ _) hz150_18 d_Mo_clause_150 ?_
        refine j_goto (tgt := 160) hx d_Mo_clause_151 (by decide) ?_
        refine j_astore_n hx [(3, .ref (G.1 (137 + (nn s9_2 1)))), (2, .int (s9_2 114 1)), (1, .int 1), (0, .ref (G.1 111))] d_Mo_clause_160 rfl (by decide) rfl ?_
        refine j_aload_n hx d_Mo_clause_161 rfl 0 rfl ?_
        refine j_iconst (v := 0) hx d_Mo_clause_162 (by decide) ?_
        refine j_aload_n hx d_Mo_clause_163 rfl 3 rfl ?_
        refine j_iconst (v := 0) hx d_Mo_clause_164 (by decide) ?_
        refine j_aload_n hx d_Mo_clause_165 rfl 3 rfl ?_
        refine j_get hx ck_Mo 11 (by decide) t_1429 (by decide) (sh_111 _ _) rfl d_Mo_clause_166 ?_
        refine j_iconst (v := 0) hx d_Mo_clause_169 (by decide) ?_
        have hz170_19 : zin (0) 6 0 := by first | exact ⟨rfl, by decide⟩ | exact zin_nI (by omega) (by first | decide | omega) | exact zin_of (by omega) (by omega)
        refine j_ialdk hx ia_114 hz170_19 d_Mo_clause_170 ?_
        refine j_iconst (v := 1) hx d_Mo_clause_171 (by decide) ?_
        refine j_isub hx d_Mo_clause_172 ?_
        refine j_callVi hx (c_Mo_number hG s9_2 0 ((s9_2 114 0) - 1) (by exact hp2)) mo_Mo_number mv_Mo_number t_1633 (by decide) rfl (by decide) (sh_111 _ _) rfl rfl (Nat.le_of_ble_eq_true rfl) d_Mo_clause_173 ?_
        have hz176_20 : zin (0) 2 0 := by first | exact ⟨rfl, by decide⟩ | exact zin_nI (by omega) (by first | decide | omega) | exact zin_of (by omega) (by omega)
        refine j_iastk hx (ias_readLight.2.2 _ hz150_18.2) hz176_20 d_Mo_clause_176 ?_
        obtain ⟨s9_3, eg_3⟩ : ∃ z : St, z = mnO s9_2 (137 + nn s9_2 1) 0 0 (s9_2 114 0 - 1) := ⟨_, rfl⟩
        refine J.to (σ' := s9_3) (by rw [eg_3]; first | done | rfl) rfl ?_
        have hp3 : pB s9_3 := by rw [eg_3]; exact mnO_p hp2 (by omega)
        have ho3 : s9_3 114 = σ 114 := by rw [eg_3, mnO_o (by decide) (by omega), ho2]
        refine j_aload_n hx d_Mo_clause_177 rfl 0 rfl ?_
        refine j_iconst (v := 1) hx d_Mo_clause_178 (by decide) ?_
        refine j_aload_n hx d_Mo_clause_179 rfl 3 rfl ?_
        refine j_iconst (v := 1) hx d_Mo_clause_180 (by decide) ?_
        refine j_bipush (v := 9) hx d_Mo_clause_181 (by decide) ?_
        refine j_callVi hx (c_Mo_number hG s9_3 1 9 (by exact hp3)) mo_Mo_number mv_Mo_number t_1633 (by decide) rfl (by decide) (sh_111 _ _) rfl rfl (Nat.le_of_ble_eq_true rfl) d_Mo_clause_183 ?_
        have hz186_21 : zin (1) 2 1 := by first | exact ⟨rfl, by decide⟩ | exact zin_nI (by omega) (by first | decide | omega) | exact zin_of (by omega) (by omega)
        refine j_iastk hx (ias_readLight.2.2 _ hz150_18.2) hz186_21 d_Mo_clause_186 ?_
        obtain ⟨s9_4, eg_4⟩ : ∃ z : St, z = mnO s9_3 (137 + nn s9_2 1) 1 1 9 := ⟨_, rfl⟩
        refine J.to (σ' := s9_4) (by rw [eg_4]; first | done | rfl) rfl ?_
        have hp4 : pB s9_4 := by rw [eg_4]; exact mnO_p hp3 (by omega)
        have ho4 : s9_4 114 = σ 114 := by rw [eg_4, mnO_o (by decide) (by omega), ho3]
        refine j_goto (tgt := 276) hx d_Mo_clause_187 (by decide) ?_
        refine j_iload_n hx d_Mo_clause_276 rfl 2 rfl ?_
        refine j_iconst (v := 5) hx d_Mo_clause_277 (by decide) ?_
        refine j_icmp_ge (tgt := 302) hx d_Mo_clause_278 (by decide) (fun zc278 => absurd zc278 (by decide)) (fun _ => ?_)
        refine j_aload_n hx d_Mo_clause_281 rfl 3 rfl ?_
        refine j_get hx ck_Mo 11 (by decide) t_1429 (by decide) (sh_111 _ _) rfl d_Mo_clause_282 ?_
        refine j_iload_n hx d_Mo_clause_285 rfl 2 rfl ?_
        refine j_dup2_11 hx d_Mo_clause_286 rfl rfl ?_
        have hz287_22 : zin (1) 6 1 := by first | exact ⟨rfl, by decide⟩ | exact zin_nI (by omega) (by first | decide | omega) | exact zin_of (by omega) (by omega)
        refine j_ialdk hx ia_114 hz287_22 d_Mo_clause_287 ?_
        refine j_aload_n hx d_Mo_clause_288 rfl 3 rfl ?_
        refine j_get hx ck_Mo 5 (by decide) t_1423 (by decide) (sh_111 _ _) rfl d_Mo_clause_289 ?_
        refine j_if_ne (tgt := 299) hx d_Mo_clause_292 (by decide) (fun zc292 => ?_) (fun zc292 => ?_)
        · skip
          refine j_iconst (v := 0) hx d_Mo_clause_299 (by decide) ?_
          refine j_iadd hx d_Mo_clause_300 ?_
          have hz301_23 : zin (1) 6 1 := by first | exact ⟨rfl, by decide⟩ | exact zin_nI (by omega) (by first | decide | omega) | exact zin_of (by omega) (by omega)
          refine j_iastk hx ia_114 hz301_23 d_Mo_clause_301 ?_
          obtain ⟨s9_5, eg_5⟩ : ∃ z : St, z = mcC s9_4 1 := ⟨_, rfl⟩
          refine J.to (σ' := s9_5) (by rw [eg_5]; unfold mcC; first | (rw [if_pos zc292]; done) | (rw [if_neg zc292]; done)) rfl ?_
          have hpz : pB s9_5 := by rw [eg_5]; unfold mcC pB; rw [up_o (by decide)]; exact hp4
          refine j_aload_n hx d_Mo_clause_302 rfl 3 rfl ?_
          refine j_bipush (v := 59) hx d_Mo_clause_303 (by decide) ?_
          refine j_callVv hx (c_Mo_sign hG s9_5 59 (by exact hpz)) mo_Mo_sign mv_Mo_sign t_1641 (by decide) rfl (by decide) (sh_111 _ _) rfl rfl (Nat.le_of_ble_eq_true rfl) d_Mo_clause_305 ?_
          exact j_vret hx hq d_Mo_clause_308 (by first | (first | (unfold mclS; rw [if_neg hkm1, if_neg hk0, if_pos hk1]; unfold mcE; rw [← eg_1, if_pos zc62, eg_5, eg_4, eg_3, eg_2]; done) | (unfold mclS; rw [if_neg hkm1, if_neg hk0, if_pos hk1]; unfold mcE; rw [← eg_1, if_pos zc62, eg_5, eg_4, eg_3, eg_2]; rfl)) | fail)
        · skip
          refine j_iconst (v := 1) hx d_Mo_clause_295 (by decide) ?_
          refine j_goto (tgt := 300) hx d_Mo_clause_296 (by decide) ?_
          refine j_iadd hx d_Mo_clause_300 ?_
          have hz301_24 : zin (1) 6 1 := by first | exact ⟨rfl, by decide⟩ | exact zin_nI (by omega) (by first | decide | omega) | exact zin_of (by omega) (by omega)
          refine j_iastk hx ia_114 hz301_24 d_Mo_clause_301 ?_
          obtain ⟨s9_5, eg_5⟩ : ∃ z : St, z = mcC s9_4 1 := ⟨_, rfl⟩
          refine J.to (σ' := s9_5) (by rw [eg_5]; unfold mcC; first | (rw [if_pos zc292]; done) | (rw [if_neg zc292]; done)) rfl ?_
          have hpz : pB s9_5 := by rw [eg_5]; unfold mcC pB; rw [up_o (by decide)]; exact hp4
          refine j_aload_n hx d_Mo_clause_302 rfl 3 rfl ?_
          refine j_bipush (v := 59) hx d_Mo_clause_303 (by decide) ?_
          refine j_callVv hx (c_Mo_sign hG s9_5 59 (by exact hpz)) mo_Mo_sign mv_Mo_sign t_1641 (by decide) rfl (by decide) (sh_111 _ _) rfl rfl (Nat.le_of_ble_eq_true rfl) d_Mo_clause_305 ?_
          exact j_vret hx hq d_Mo_clause_308 (by first | (first | (unfold mclS; rw [if_neg hkm1, if_neg hk0, if_pos hk1]; unfold mcE; rw [← eg_1, if_pos zc62, eg_5, eg_4, eg_3, eg_2]; done) | (unfold mclS; rw [if_neg hkm1, if_neg hk0, if_pos hk1]; unfold mcE; rw [← eg_1, if_pos zc62, eg_5, eg_4, eg_3, eg_2]; rfl)) | fail)
      · skip
        exact j_vret hx hq d_Mo_clause_65 (by first | (unfold mclS; rw [if_neg hkm1, if_neg hk0, if_pos hk1]; unfold mcE; rw [← eg_1]; exact (if_neg zc62).symm) | fail)
    · skip
      refine j_iload_n hx d_Mo_clause_31 rfl 0 rfl ?_
      refine j_iconst (v := 5) hx d_Mo_clause_32 (by decide) ?_
      refine j_icmp_ge (tgt := 58) hx d_Mo_clause_33 (by decide) (fun zc33 => absurd zc33 (by decide)) (fun _ => ?_)
      refine j_aload_n hx d_Mo_clause_36 rfl 1 rfl ?_
      refine j_get hx ck_Mo 11 (by decide) t_1429 (by decide) (sh_111 _ _) rfl d_Mo_clause_37 ?_
      refine j_iload_n hx d_Mo_clause_40 rfl 0 rfl ?_
      have hz41_25 : zin (1) 6 1 := by first | exact ⟨rfl, by decide⟩ | exact zin_nI (by omega) (by first | decide | omega) | exact zin_of (by omega) (by omega)
      refine j_ialdk hx ia_114 hz41_25 d_Mo_clause_41 ?_
      refine j_iload_n hx d_Mo_clause_42 rfl 0 rfl ?_
      refine j_callSi hx (c_Mo_mostOf hG (mbz σ) 1) mo_Mo_mostOf t_1627 t_1626 (by decide) rfl rfl (Nat.le_of_ble_eq_true rfl) d_Mo_clause_43 ?_
      refine j_icmp_ne (tgt := 58) hx d_Mo_clause_46 (by decide) (fun zc46 => ?_) (fun zc46 => ?_)
      · skip
        obtain ⟨s9_1, eg_1⟩ : ∃ z : St, z = mcA σ 1 6 := ⟨_, rfl⟩
        refine J.to (σ' := s9_1) (by rw [eg_1]; rw [mbz_k (by decide)] at zc28; unfold mcA; first | (rw [if_pos (Or.inl zc28)]; done) | (rw [mbz_o (by decide)] at zc46; first | (rw [if_pos (show σ 111 7 = 60 ∨ σ 114 1 = 6 from Or.inr zc46)]; done) | (rw [if_neg (show ¬ (σ 111 7 = 60 ∨ σ 114 1 = 6) from fun z => z.elim zc28 zc46)]; done))) rfl ?_
        have hp1 : pB s9_1 := by rw [eg_1]; exact mcA_p hp
        have ho1 : s9_1 114 = σ 114 := by rw [eg_1]; exact mcA_o (by decide)
        refine j_aload_n hx d_Mo_clause_58 rfl 1 rfl ?_
        refine j_get hx ck_Mo 5 (by decide) t_1423 (by decide) (sh_111 _ _) rfl d_Mo_clause_59 ?_
        refine j_if_eq (tgt := 66) hx d_Mo_clause_62 (by decide) (fun zc62 => ?_) (fun zc62 => ?_)
        · skip
          refine j_aload_n hx d_Mo_clause_66 rfl 1 rfl ?_
          refine j_callVv hx (c_Mo_skipWord hG s9_1 (by exact hp1)) mo_Mo_skipWord mv_Mo_skipWord t_1629 (by decide) rfl (by decide) (sh_111 _ _) rfl rfl (Nat.le_of_ble_eq_true rfl) d_Mo_clause_67 ?_
          refine j_aload_n hx d_Mo_clause_70 rfl 1 rfl ?_
          refine j_dup hx d_Mo_clause_71 rfl ?_
          refine j_get hx ck_Mo 7 (by decide) t_1425 (by decide) (sh_111 _ _) rfl d_Mo_clause_72 ?_
          refine j_iconst (v := 1) hx d_Mo_clause_75 (by decide) ?_
          refine j_iadd hx d_Mo_clause_76 ?_
          refine j_put hx ck_Mo 7 (by decide) t_1425 (by decide) (sh_111 _ _) rfl (Nat.le_of_ble_eq_true rfl) (sh_111 _ _) d_Mo_clause_77 ?_
          obtain ⟨s9_2, eg_2⟩ : ∃ z : St, z = mc3 s9_1 := ⟨_, rfl⟩
          refine J.to (σ' := s9_2) (by rw [eg_2]; first | done | rfl) rfl ?_
          have hp2 : pB s9_2 := by rw [eg_2]; exact mc3_p hp1
          have ho2 : s9_2 114 = σ 114 := by rw [eg_2, mc3_o (by decide), ho1]
          have hne := (mcA_f (t := σ) (j := 1) (most := 6) (by rw [← eg_1]; first | exact zc62 | exact Decidable.not_not.mp zc62)).1
          have hzn : zin (s9_2 114 1) 6 (nn s9_2 1) := by unfold nn; rw [ho2]; exact nn_lt (m := 6) hT.2.1.1 hT.2.1.2 rfl hne
          refine j_aload_n hx d_Mo_clause_80 rfl 1 rfl ?_
          refine j_get hx ck_Mo 11 (by decide) t_1429 (by decide) (sh_111 _ _) rfl d_Mo_clause_81 ?_
          refine j_iload_n hx d_Mo_clause_84 rfl 0 rfl ?_
          have hz85_26 : zin (1) 6 1 := by first | exact ⟨rfl, by decide⟩ | exact zin_nI (by omega) (by first | decide | omega) | exact zin_of (by omega) (by omega)
          refine j_ialdk hx ia_114 hz85_26 d_Mo_clause_85 ?_
          refine j_istore_n hx [(2, .int (s9_2 114 1)), (1, .int 1), (0, .ref (G.1 111))] d_Mo_clause_86 rfl (by decide) rfl ?_
          refine j_iload_n hx d_Mo_clause_87 rfl 1 rfl ?_
          refine j_tableIn (x := 1) (tgt := 140) (off := 52) hx d_Mo_clause_88 (by decide) (by decide) (by decide) (by decide) ?_
          refine j_iload_n hx d_Mo_clause_140 rfl 1 rfl ?_
          refine j_iconst (v := 1) hx d_Mo_clause_141 (by decide) ?_
          refine j_icmp_ne (tgt := 154) hx d_Mo_clause_142 (by decide) (fun zc142 => absurd rfl zc142) (fun _ => ?_)
          refine j_aload_n hx d_Mo_clause_145 rfl 2 rfl ?_
          refine j_get hx ck_Mo 17 (by decide) t_1435 (by decide) (sh_111 _ _) rfl d_Mo_clause_146 ?_
          refine j_iload_n hx d_Mo_clause_149 rfl 0 rfl ?_
          have hz150_27 : zin (s9_2 114 1) 6 ((nn s9_2 1)) := by exact hzn
          refine j_aaldk hx ias_readLight.1.1 (ias_readLight.2.1 _ _) hz150_27 d_Mo_clause_150 ?_
          refine j_goto (tgt := 160) hx d_Mo_clause_151 (by decide) ?_
          refine j_astore_n hx [(3, .ref (G.1 (137 + (nn s9_2 1)))), (2, .int (s9_2 114 1)), (1, .int 1), (0, .ref (G.1 111))] d_Mo_clause_160 rfl (by decide) rfl ?_
          refine j_aload_n hx d_Mo_clause_161 rfl 0 rfl ?_
          refine j_iconst (v := 0) hx d_Mo_clause_162 (by decide) ?_
          refine j_aload_n hx d_Mo_clause_163 rfl 3 rfl ?_
          refine j_iconst (v := 0) hx d_Mo_clause_164 (by decide) ?_
          refine j_aload_n hx d_Mo_clause_165 rfl 3 rfl ?_
          refine j_get hx ck_Mo 11 (by decide) t_1429 (by decide) (sh_111 _ _) rfl d_Mo_clause_166 ?_
          refine j_iconst (v := 0) hx d_Mo_clause_169 (by decide) ?_
          have hz170_28 : zin (0) 6 0 := by first | exact ⟨rfl, by decide⟩ | exact zin_nI (by omega) (by first | decide | omega) | exact zin_of (by omega) (by omega)
          refine j_ialdk hx ia_114 hz170_28 d_Mo_clause_170 ?_
          refine j_iconst (v := 1) hx d_Mo_clause_171 (by decide) ?_
          refine j_isub hx d_Mo_clause_172 ?_
          refine j_callVi hx (c_Mo_number hG s9_2 0 ((s9_2 114 0) - 1) (by exact hp2)) mo_Mo_number mv_Mo_number t_1633 (by decide) rfl (by decide) (sh_111 _ _) rfl rfl (Nat.le_of_ble_eq_true rfl) d_Mo_clause_173 ?_
          have hz176_29 : zin (0) 2 0 := by first | exact ⟨rfl, by decide⟩ | exact zin_nI (by omega) (by first | decide | omega) | exact zin_of (by omega) (by omega)
          refine j_iastk hx (ias_readLight.2.2 _ hz150_27.2) hz176_29 d_Mo_clause_176 ?_
          obtain ⟨s9_3, eg_3⟩ : ∃ z : St, z = mnO s9_2 (137 + nn s9_2 1) 0 0 (s9_2 114 0 - 1) := ⟨_, rfl⟩
          refine J.to (σ' := s9_3) (by rw [eg_3]; first | done | rfl) rfl ?_
          have hp3 : pB s9_3 := by rw [eg_3]; exact mnO_p hp2 (by omega)
          have ho3 : s9_3 114 = σ 114 := by rw [eg_3, mnO_o (by decide) (by omega), ho2]
          refine j_aload_n hx d_Mo_clause_177 rfl 0 rfl ?_
          refine j_iconst (v := 1) hx d_Mo_clause_178 (by decide) ?_
          refine j_aload_n hx d_Mo_clause_179 rfl 3 rfl ?_
          refine j_iconst (v := 1) hx d_Mo_clause_180 (by decide) ?_
          refine j_bipush (v := 9) hx d_Mo_clause_181 (by decide) ?_
          refine j_callVi hx (c_Mo_number hG s9_3 1 9 (by exact hp3)) mo_Mo_number mv_Mo_number t_1633 (by decide) rfl (by decide) (sh_111 _ _) rfl rfl (Nat.le_of_ble_eq_true rfl) d_Mo_clause_183 ?_
          have hz186_30 : zin (1) 2 1 := by first | exact ⟨rfl, by decide⟩ | exact zin_nI (by omega) (by first | decide | omega) | exact zin_of (by omega) (by omega)
          refine j_iastk hx (ias_readLight.2.2 _ hz150_27.2) hz186_30 d_Mo_clause_186 ?_
          obtain ⟨s9_4, eg_4⟩ : ∃ z : St, z = mnO s9_3 (137 + nn s9_2 1) 1 1 9 := ⟨_, rfl⟩
          refine J.to (σ' := s9_4) (by rw [eg_4]; first | done | rfl) rfl ?_
          have hp4 : pB s9_4 := by rw [eg_4]; exact mnO_p hp3 (by omega)
          have ho4 : s9_4 114 = σ 114 := by rw [eg_4, mnO_o (by decide) (by omega), ho3]
          refine j_goto (tgt := 276) hx d_Mo_clause_187 (by decide) ?_
          refine j_iload_n hx d_Mo_clause_276 rfl 2 rfl ?_
          refine j_iconst (v := 5) hx d_Mo_clause_277 (by decide) ?_
          refine j_icmp_ge (tgt := 302) hx d_Mo_clause_278 (by decide) (fun zc278 => absurd zc278 (by decide)) (fun _ => ?_)
          refine j_aload_n hx d_Mo_clause_281 rfl 3 rfl ?_
          refine j_get hx ck_Mo 11 (by decide) t_1429 (by decide) (sh_111 _ _) rfl d_Mo_clause_282 ?_
          refine j_iload_n hx d_Mo_clause_285 rfl 2 rfl ?_
          refine j_dup2_11 hx d_Mo_clause_286 rfl rfl ?_
          have hz287_31 : zin (1) 6 1 := by first | exact ⟨rfl, by decide⟩ | exact zin_nI (by omega) (by first | decide | omega) | exact zin_of (by omega) (by omega)
          refine j_ialdk hx ia_114 hz287_31 d_Mo_clause_287 ?_
          refine j_aload_n hx d_Mo_clause_288 rfl 3 rfl ?_
          refine j_get hx ck_Mo 5 (by decide) t_1423 (by decide) (sh_111 _ _) rfl d_Mo_clause_289 ?_
          refine j_if_ne (tgt := 299) hx d_Mo_clause_292 (by decide) (fun zc292 => ?_) (fun zc292 => ?_)
          · skip
            refine j_iconst (v := 0) hx d_Mo_clause_299 (by decide) ?_
            refine j_iadd hx d_Mo_clause_300 ?_
            have hz301_32 : zin (1) 6 1 := by first | exact ⟨rfl, by decide⟩ | exact zin_nI (by omega) (by first | decide | omega) | exact zin_of (by omega) (by omega)
            refine j_iastk hx ia_114 hz301_32 d_Mo_clause_301 ?_
            obtain ⟨s9_5, eg_5⟩ : ∃ z : St, z = mcC s9_4 1 := ⟨_, rfl⟩
            refine J.to (σ' := s9_5) (by rw [eg_5]; unfold mcC; first | (rw [if_pos zc292]; done) | (rw [if_neg zc292]; done)) rfl ?_
            have hpz : pB s9_5 := by rw [eg_5]; unfold mcC pB; rw [up_o (by decide)]; exact hp4
            refine j_aload_n hx d_Mo_clause_302 rfl 3 rfl ?_
            refine j_bipush (v := 59) hx d_Mo_clause_303 (by decide) ?_
            refine j_callVv hx (c_Mo_sign hG s9_5 59 (by exact hpz)) mo_Mo_sign mv_Mo_sign t_1641 (by decide) rfl (by decide) (sh_111 _ _) rfl rfl (Nat.le_of_ble_eq_true rfl) d_Mo_clause_305 ?_
            exact j_vret hx hq d_Mo_clause_308 (by first | (first | (unfold mclS; rw [if_neg hkm1, if_neg hk0, if_pos hk1]; unfold mcE; rw [← eg_1, if_pos zc62, eg_5, eg_4, eg_3, eg_2]; done) | (unfold mclS; rw [if_neg hkm1, if_neg hk0, if_pos hk1]; unfold mcE; rw [← eg_1, if_pos zc62, eg_5, eg_4, eg_3, eg_2]; rfl)) | fail)
          · skip
            refine j_iconst (v := 1) hx d_Mo_clause_295 (by decide) ?_
            refine j_goto (tgt := 300) hx d_Mo_clause_296 (by decide) ?_
            refine j_iadd hx d_Mo_clause_300 ?_
            have hz301_33 : zin (1) 6 1 := by first | exact ⟨rfl, by decide⟩ | exact zin_nI (by omega) (by first | decide | omega) | exact zin_of (by omega) (by omega)
            refine j_iastk hx ia_114 hz301_33 d_Mo_clause_301 ?_
            obtain ⟨s9_5, eg_5⟩ : ∃ z : St, z = mcC s9_4 1 := ⟨_, rfl⟩
            refine J.to (σ' := s9_5) (by rw [eg_5]; unfold mcC; first | (rw [if_pos zc292]; done) | (rw [if_neg zc292]; done)) rfl ?_
            have hpz : pB s9_5 := by rw [eg_5]; unfold mcC pB; rw [up_o (by decide)]; exact hp4
            refine j_aload_n hx d_Mo_clause_302 rfl 3 rfl ?_
            refine j_bipush (v := 59) hx d_Mo_clause_303 (by decide) ?_
            refine j_callVv hx (c_Mo_sign hG s9_5 59 (by exact hpz)) mo_Mo_sign mv_Mo_sign t_1641 (by decide) rfl (by decide) (sh_111 _ _) rfl rfl (Nat.le_of_ble_eq_true rfl) d_Mo_clause_305 ?_
            exact j_vret hx hq d_Mo_clause_308 (by first | (first | (unfold mclS; rw [if_neg hkm1, if_neg hk0, if_pos hk1]; unfold mcE; rw [← eg_1, if_pos zc62, eg_5, eg_4, eg_3, eg_2]; done) | (unfold mclS; rw [if_neg hkm1, if_neg hk0, if_pos hk1]; unfold mcE; rw [← eg_1, if_pos zc62, eg_5, eg_4, eg_3, eg_2]; rfl)) | fail)
        · skip
          exact j_vret hx hq d_Mo_clause_65 (by first | (unfold mclS; rw [if_neg hkm1, if_neg hk0, if_pos hk1]; unfold mcE; rw [← eg_1]; exact (if_neg zc62).symm) | fail)
      · skip
        refine j_aload_n hx d_Mo_clause_49 rfl 1 rfl ?_
        refine j_iconst (v := 3) hx d_Mo_clause_50 (by decide) ?_
        refine j_aload_n hx d_Mo_clause_51 rfl 1 rfl ?_
        refine j_get hx ck_Mo 4 (by decide) t_1422 (by decide) (sh_111 _ _) rfl d_Mo_clause_52 ?_
        refine j_callVv hx (c_Mo_wrong hG (mbz σ) 3 ((mbz σ) 111 4)) mo_Mo_wrong mv_Mo_wrong t_1622 (by decide) rfl (by decide) (sh_111 _ _) rfl rfl (Nat.le_of_ble_eq_true rfl) d_Mo_clause_55 ?_
        obtain ⟨s9_1, eg_1⟩ : ∃ z : St, z = mcA σ 1 6 := ⟨_, rfl⟩
        refine J.to (σ' := s9_1) (by rw [eg_1]; rw [mbz_k (by decide)] at zc28; unfold mcA; first | (rw [if_pos (Or.inl zc28)]; done) | (rw [mbz_o (by decide)] at zc46; first | (rw [if_pos (show σ 111 7 = 60 ∨ σ 114 1 = 6 from Or.inr zc46)]; done) | (rw [if_neg (show ¬ (σ 111 7 = 60 ∨ σ 114 1 = 6) from fun z => z.elim zc28 zc46)]; done))) rfl ?_
        have hp1 : pB s9_1 := by rw [eg_1]; exact mcA_p hp
        have ho1 : s9_1 114 = σ 114 := by rw [eg_1]; exact mcA_o (by decide)
        refine j_aload_n hx d_Mo_clause_58 rfl 1 rfl ?_
        refine j_get hx ck_Mo 5 (by decide) t_1423 (by decide) (sh_111 _ _) rfl d_Mo_clause_59 ?_
        refine j_if_eq (tgt := 66) hx d_Mo_clause_62 (by decide) (fun zc62 => ?_) (fun zc62 => ?_)
        · skip
          refine j_aload_n hx d_Mo_clause_66 rfl 1 rfl ?_
          refine j_callVv hx (c_Mo_skipWord hG s9_1 (by exact hp1)) mo_Mo_skipWord mv_Mo_skipWord t_1629 (by decide) rfl (by decide) (sh_111 _ _) rfl rfl (Nat.le_of_ble_eq_true rfl) d_Mo_clause_67 ?_
          refine j_aload_n hx d_Mo_clause_70 rfl 1 rfl ?_
          refine j_dup hx d_Mo_clause_71 rfl ?_
          refine j_get hx ck_Mo 7 (by decide) t_1425 (by decide) (sh_111 _ _) rfl d_Mo_clause_72 ?_
          refine j_iconst (v := 1) hx d_Mo_clause_75 (by decide) ?_
          refine j_iadd hx d_Mo_clause_76 ?_
          refine j_put hx ck_Mo 7 (by decide) t_1425 (by decide) (sh_111 _ _) rfl (Nat.le_of_ble_eq_true rfl) (sh_111 _ _) d_Mo_clause_77 ?_
          obtain ⟨s9_2, eg_2⟩ : ∃ z : St, z = mc3 s9_1 := ⟨_, rfl⟩
          refine J.to (σ' := s9_2) (by rw [eg_2]; first | done | rfl) rfl ?_
          have hp2 : pB s9_2 := by rw [eg_2]; exact mc3_p hp1
          have ho2 : s9_2 114 = σ 114 := by rw [eg_2, mc3_o (by decide), ho1]
          have hne := (mcA_f (t := σ) (j := 1) (most := 6) (by rw [← eg_1]; first | exact zc62 | exact Decidable.not_not.mp zc62)).1
          have hzn : zin (s9_2 114 1) 6 (nn s9_2 1) := by unfold nn; rw [ho2]; exact nn_lt (m := 6) hT.2.1.1 hT.2.1.2 rfl hne
          refine j_aload_n hx d_Mo_clause_80 rfl 1 rfl ?_
          refine j_get hx ck_Mo 11 (by decide) t_1429 (by decide) (sh_111 _ _) rfl d_Mo_clause_81 ?_
          refine j_iload_n hx d_Mo_clause_84 rfl 0 rfl ?_
          have hz85_34 : zin (1) 6 1 := by first | exact ⟨rfl, by decide⟩ | exact zin_nI (by omega) (by first | decide | omega) | exact zin_of (by omega) (by omega)
          refine j_ialdk hx ia_114 hz85_34 d_Mo_clause_85 ?_
          refine j_istore_n hx [(2, .int (s9_2 114 1)), (1, .int 1), (0, .ref (G.1 111))] d_Mo_clause_86 rfl (by decide) rfl ?_
          refine j_iload_n hx d_Mo_clause_87 rfl 1 rfl ?_
          refine j_tableIn (x := 1) (tgt := 140) (off := 52) hx d_Mo_clause_88 (by decide) (by decide) (by decide) (by decide) ?_
          refine j_iload_n hx d_Mo_clause_140 rfl 1 rfl ?_
          refine j_iconst (v := 1) hx d_Mo_clause_141 (by decide) ?_
          refine j_icmp_ne (tgt := 154) hx d_Mo_clause_142 (by decide) (fun zc142 => absurd rfl zc142) (fun _ => ?_)
          refine j_aload_n hx d_Mo_clause_145 rfl 2 rfl ?_
          refine j_get hx ck_Mo 17 (by decide) t_1435 (by decide) (sh_111 _ _) rfl d_Mo_clause_146 ?_
          refine j_iload_n hx d_Mo_clause_149 rfl 0 rfl ?_
          have hz150_35 : zin (s9_2 114 1) 6 ((nn s9_2 1)) := by exact hzn
          refine j_aaldk hx ias_readLight.1.1 (ias_readLight.2.1 _ _) hz150_35 d_Mo_clause_150 ?_
          refine j_goto (tgt := 160) hx d_Mo_clause_151 (by decide) ?_
          refine j_astore_n hx [(3, .ref (G.1 (137 + (nn s9_2 1)))), (2, .int (s9_2 114 1)), (1, .int 1), (0, .ref (G.1 111))] d_Mo_clause_160 rfl (by decide) rfl ?_
          refine j_aload_n hx d_Mo_clause_161 rfl 0 rfl ?_
          refine j_iconst (v := 0) hx d_Mo_clause_162 (by decide) ?_
          refine j_aload_n hx d_Mo_clause_163 rfl 3 rfl ?_
          refine j_iconst (v := 0) hx d_Mo_clause_164 (by decide) ?_
          refine j_aload_n hx d_Mo_clause_165 rfl 3 rfl ?_
          refine j_get hx ck_Mo 11 (by decide) t_1429 (by decide) (sh_111 _ _) rfl d_Mo_clause_166 ?_
          refine j_iconst (v := 0) hx d_Mo_clause_169 (by decide) ?_
          have hz170_36 : zin (0) 6 0 := by first | exact ⟨rfl, by decide⟩ | exact zin_nI (by omega) (by first | decide | omega) | exact zin_of (by omega) (by omega)
          refine j_ialdk hx ia_114 hz170_36 d_Mo_clause_170 ?_
          refine j_iconst (v := 1) hx d_Mo_clause_171 (by decide) ?_
          refine j_isub hx d_Mo_clause_172 ?_
          refine j_callVi hx (c_Mo_number hG s9_2 0 ((s9_2 114 0) - 1) (by exact hp2)) mo_Mo_number mv_Mo_number t_1633 (by decide) rfl (by decide) (sh_111 _ _) rfl rfl (Nat.le_of_ble_eq_true rfl) d_Mo_clause_173 ?_
          have hz176_37 : zin (0) 2 0 := by first | exact ⟨rfl, by decide⟩ | exact zin_nI (by omega) (by first | decide | omega) | exact zin_of (by omega) (by omega)
          refine j_iastk hx (ias_readLight.2.2 _ hz150_35.2) hz176_37 d_Mo_clause_176 ?_
          obtain ⟨s9_3, eg_3⟩ : ∃ z : St, z = mnO s9_2 (137 + nn s9_2 1) 0 0 (s9_2 114 0 - 1) := ⟨_, rfl⟩
          refine J.to (σ' := s9_3) (by rw [eg_3]; first | done | rfl) rfl ?_
          have hp3 : pB s9_3 := by rw [eg_3]; exact mnO_p hp2 (by omega)
          have ho3 : s9_3 114 = σ 114 := by rw [eg_3, mnO_o (by decide) (by omega), ho2]
          refine j_aload_n hx d_Mo_clause_177 rfl 0 rfl ?_
          refine j_iconst (v := 1) hx d_Mo_clause_178 (by decide) ?_
          refine j_aload_n hx d_Mo_clause_179 rfl 3 rfl ?_
          refine j_iconst (v := 1) hx d_Mo_clause_180 (by decide) ?_
          refine j_bipush (v := 9) hx d_Mo_clause_181 (by decide) ?_
          refine j_callVi hx (c_Mo_number hG s9_3 1 9 (by exact hp3)) mo_Mo_number mv_Mo_number t_1633 (by decide) rfl (by decide) (sh_111 _ _) rfl rfl (Nat.le_of_ble_eq_true rfl) d_Mo_clause_183 ?_
          have hz186_38 : zin (1) 2 1 := by first | exact ⟨rfl, by decide⟩ | exact zin_nI (by omega) (by first | decide | omega) | exact zin_of (by omega) (by omega)
          refine j_iastk hx (ias_readLight.2.2 _ hz150_35.2) hz186_38 d_Mo_clause_186 ?_
          obtain ⟨s9_4, eg_4⟩ : ∃ z : St, z = mnO s9_3 (137 + nn s9_2 1) 1 1 9 := ⟨_, rfl⟩
          refine J.to (σ' := s9_4) (by rw [eg_4]; first | done | rfl) rfl ?_
          have hp4 : pB s9_4 := by rw [eg_4]; exact mnO_p hp3 (by omega)
          have ho4 : s9_4 114 = σ 114 := by rw [eg_4, mnO_o (by decide) (by omega), ho3]
          refine j_goto (tgt := 276) hx d_Mo_clause_187 (by decide) ?_
          refine j_iload_n hx d_Mo_clause_276 rfl 2 rfl ?_
          refine j_iconst (v := 5) hx d_Mo_clause_277 (by decide) ?_
          refine j_icmp_ge (tgt := 302) hx d_Mo_clause_278 (by decide) (fun zc278 => absurd zc278 (by decide)) (fun _ => ?_)
          refine j_aload_n hx d_Mo_clause_281 rfl 3 rfl ?_
          refine j_get hx ck_Mo 11 (by decide) t_1429 (by decide) (sh_111 _ _) rfl d_Mo_clause_282 ?_
          refine j_iload_n hx d_Mo_clause_285 rfl 2 rfl ?_
          refine j_dup2_11 hx d_Mo_clause_286 rfl rfl ?_
          have hz287_39 : zin (1) 6 1 := by first | exact ⟨rfl, by decide⟩ | exact zin_nI (by omega) (by first | decide | omega) | exact zin_of (by omega) (by omega)
          refine j_ialdk hx ia_114 hz287_39 d_Mo_clause_287 ?_
          refine j_aload_n hx d_Mo_clause_288 rfl 3 rfl ?_
          refine j_get hx ck_Mo 5 (by decide) t_1423 (by decide) (sh_111 _ _) rfl d_Mo_clause_289 ?_
          refine j_if_ne (tgt := 299) hx d_Mo_clause_292 (by decide) (fun zc292 => ?_) (fun zc292 => ?_)
          · skip
            refine j_iconst (v := 0) hx d_Mo_clause_299 (by decide) ?_
            refine j_iadd hx d_Mo_clause_300 ?_
            have hz301_40 : zin (1) 6 1 := by first | exact ⟨rfl, by decide⟩ | exact zin_nI (by omega) (by first | decide | omega) | exact zin_of (by omega) (by omega)
            refine j_iastk hx ia_114 hz301_40 d_Mo_clause_301 ?_
            obtain ⟨s9_5, eg_5⟩ : ∃ z : St, z = mcC s9_4 1 := ⟨_, rfl⟩
            refine J.to (σ' := s9_5) (by rw [eg_5]; unfold mcC; first | (rw [if_pos zc292]; done) | (rw [if_neg zc292]; done)) rfl ?_
            have hpz : pB s9_5 := by rw [eg_5]; unfold mcC pB; rw [up_o (by decide)]; exact hp4
            refine j_aload_n hx d_Mo_clause_302 rfl 3 rfl ?_
            refine j_bipush (v := 59) hx d_Mo_clause_303 (by decide) ?_
            refine j_callVv hx (c_Mo_sign hG s9_5 59 (by exact hpz)) mo_Mo_sign mv_Mo_sign t_1641 (by decide) rfl (by decide) (sh_111 _ _) rfl rfl (Nat.le_of_ble_eq_true rfl) d_Mo_clause_305 ?_
            exact j_vret hx hq d_Mo_clause_308 (by first | (first | (unfold mclS; rw [if_neg hkm1, if_neg hk0, if_pos hk1]; unfold mcE; rw [← eg_1, if_pos zc62, eg_5, eg_4, eg_3, eg_2]; done) | (unfold mclS; rw [if_neg hkm1, if_neg hk0, if_pos hk1]; unfold mcE; rw [← eg_1, if_pos zc62, eg_5, eg_4, eg_3, eg_2]; rfl)) | fail)
          · skip
            refine j_iconst (v := 1) hx d_Mo_clause_295 (by decide) ?_
            refine j_goto (tgt := 300) hx d_Mo_clause_296 (by decide) ?_
            refine j_iadd hx d_Mo_clause_300 ?_
            have hz301_41 : zin (1) 6 1 := by first | exact ⟨rfl, by decide⟩ | exact zin_nI (by omega) (by first | decide | omega) | exact zin_of (by omega) (by omega)
            refine j_iastk hx ia_114 hz301_41 d_Mo_clause_301 ?_
            obtain ⟨s9_5, eg_5⟩ : ∃ z : St, z = mcC s9_4 1 := ⟨_, rfl⟩
            refine J.to (σ' := s9_5) (by rw [eg_5]; unfold mcC; first | (rw [if_pos zc292]; done) | (rw [if_neg zc292]; done)) rfl ?_
            have hpz : pB s9_5 := by rw [eg_5]; unfold mcC pB; rw [up_o (by decide)]; exact hp4
            refine j_aload_n hx d_Mo_clause_302 rfl 3 rfl ?_
            refine j_bipush (v := 59) hx d_Mo_clause_303 (by decide) ?_
            refine j_callVv hx (c_Mo_sign hG s9_5 59 (by exact hpz)) mo_Mo_sign mv_Mo_sign t_1641 (by decide) rfl (by decide) (sh_111 _ _) rfl rfl (Nat.le_of_ble_eq_true rfl) d_Mo_clause_305 ?_
            exact j_vret hx hq d_Mo_clause_308 (by first | (first | (unfold mclS; rw [if_neg hkm1, if_neg hk0, if_pos hk1]; unfold mcE; rw [← eg_1, if_pos zc62, eg_5, eg_4, eg_3, eg_2]; done) | (unfold mclS; rw [if_neg hkm1, if_neg hk0, if_pos hk1]; unfold mcE; rw [← eg_1, if_pos zc62, eg_5, eg_4, eg_3, eg_2]; rfl)) | fail)
        · skip
          exact j_vret hx hq d_Mo_clause_65 (by first | (unfold mclS; rw [if_neg hkm1, if_neg hk0, if_pos hk1]; unfold mcE; rw [← eg_1]; exact (if_neg zc62).symm) | fail)
  by_cases hk2 : mkV σ = 2
  · skip
    refine J.to (ls' := [(1, .int 2), (0, .ref (G.1 111))]) rfl (by rw [hk2]) ?_
    refine j_iload_n hx d_Mo_clause_5 rfl 0 rfl ?_
    refine j_iconst (v := (-1)) hx d_Mo_clause_6 (by decide) ?_
    refine j_icmp_ne (tgt := 22) hx d_Mo_clause_7 (by decide) (fun _ => ?_) (fun zc7 => absurd zc7 (by decide))
    refine j_aload_n hx d_Mo_clause_22 rfl 1 rfl ?_
    refine j_get hx ck_Mo 7 (by decide) t_1425 (by decide) (sh_111 _ _) rfl d_Mo_clause_23 ?_
    refine j_bipush (v := 60) hx d_Mo_clause_26 (by decide) ?_
    refine j_icmp_eq (tgt := 49) hx d_Mo_clause_28 (by decide) (fun zc28 => ?_) (fun zc28 => ?_)
    · skip
      refine j_aload_n hx d_Mo_clause_49 rfl 1 rfl ?_
      refine j_iconst (v := 3) hx d_Mo_clause_50 (by decide) ?_
      refine j_aload_n hx d_Mo_clause_51 rfl 1 rfl ?_
      refine j_get hx ck_Mo 4 (by decide) t_1422 (by decide) (sh_111 _ _) rfl d_Mo_clause_52 ?_
      refine j_callVv hx (c_Mo_wrong hG (mbz σ) 3 ((mbz σ) 111 4)) mo_Mo_wrong mv_Mo_wrong t_1622 (by decide) rfl (by decide) (sh_111 _ _) rfl rfl (Nat.le_of_ble_eq_true rfl) d_Mo_clause_55 ?_
      obtain ⟨s9_1, eg_1⟩ : ∃ z : St, z = mcA σ 2 3 := ⟨_, rfl⟩
      refine J.to (σ' := s9_1) (by rw [eg_1]; rw [mbz_k (by decide)] at zc28; unfold mcA; first | (rw [if_pos (Or.inl zc28)]; done) | (rw [mbz_o (by decide)] at zc46; first | (rw [if_pos (show σ 111 7 = 60 ∨ σ 114 2 = 3 from Or.inr zc46)]; done) | (rw [if_neg (show ¬ (σ 111 7 = 60 ∨ σ 114 2 = 3) from fun z => z.elim zc28 zc46)]; done))) rfl ?_
      have hp1 : pB s9_1 := by rw [eg_1]; exact mcA_p hp
      have ho1 : s9_1 114 = σ 114 := by rw [eg_1]; exact mcA_o (by decide)
      refine j_aload_n hx d_Mo_clause_58 rfl 1 rfl ?_
      refine j_get hx ck_Mo 5 (by decide) t_1423 (by decide) (sh_111 _ _) rfl d_Mo_clause_59 ?_
      refine j_if_eq (tgt := 66) hx d_Mo_clause_62 (by decide) (fun zc62 => ?_) (fun zc62 => ?_)
      · skip
        refine j_aload_n hx d_Mo_clause_66 rfl 1 rfl ?_
        refine j_callVv hx (c_Mo_skipWord hG s9_1 (by exact hp1)) mo_Mo_skipWord mv_Mo_skipWord t_1629 (by decide) rfl (by decide) (sh_111 _ _) rfl rfl (Nat.le_of_ble_eq_true rfl) d_Mo_clause_67 ?_
        refine j_aload_n hx d_Mo_clause_70 rfl 1 rfl ?_
        refine j_dup hx d_Mo_clause_71 rfl ?_
        refine j_get hx ck_Mo 7 (by decide) t_1425 (by decide) (sh_111 _ _) rfl d_Mo_clause_72 ?_
        refine j_iconst (v := 1) hx d_Mo_clause_75 (by decide) ?_
        refine j_iadd hx d_Mo_clause_76 ?_
        refine j_put hx ck_Mo 7 (by decide) t_1425 (by decide) (sh_111 _ _) rfl (Nat.le_of_ble_eq_true rfl) (sh_111 _ _) d_Mo_clause_77 ?_
        obtain ⟨s9_2, eg_2⟩ : ∃ z : St, z = mc3 s9_1 := ⟨_, rfl⟩
        refine J.to (σ' := s9_2) (by rw [eg_2]; first | done | rfl) rfl ?_
        have hp2 : pB s9_2 := by rw [eg_2]; exact mc3_p hp1
        have ho2 : s9_2 114 = σ 114 := by rw [eg_2, mc3_o (by decide), ho1]
        have hne := (mcA_f (t := σ) (j := 2) (most := 3) (by rw [← eg_1]; first | exact zc62 | exact Decidable.not_not.mp zc62)).1
        have hzn : zin (s9_2 114 2) 3 (nn s9_2 2) := by unfold nn; rw [ho2]; exact nn_lt (m := 3) hT.2.2.1.1 hT.2.2.1.2 rfl hne
        refine j_aload_n hx d_Mo_clause_80 rfl 1 rfl ?_
        refine j_get hx ck_Mo 11 (by decide) t_1429 (by decide) (sh_111 _ _) rfl d_Mo_clause_81 ?_
        refine j_iload_n hx d_Mo_clause_84 rfl 0 rfl ?_
        have hz85_42 : zin (2) 6 2 := by first | exact ⟨rfl, by decide⟩ | exact zin_nI (by omega) (by first | decide | omega) | exact zin_of (by omega) (by omega)
        refine j_ialdk hx ia_114 hz85_42 d_Mo_clause_85 ?_
        refine j_istore_n hx [(2, .int (s9_2 114 2)), (1, .int 2), (0, .ref (G.1 111))] d_Mo_clause_86 rfl (by decide) rfl ?_
        refine j_iload_n hx d_Mo_clause_87 rfl 1 rfl ?_
        refine j_tableIn (x := 2) (tgt := 140) (off := 52) hx d_Mo_clause_88 (by decide) (by decide) (by decide) (by decide) ?_
        refine j_iload_n hx d_Mo_clause_140 rfl 1 rfl ?_
        refine j_iconst (v := 1) hx d_Mo_clause_141 (by decide) ?_
        refine j_icmp_ne (tgt := 154) hx d_Mo_clause_142 (by decide) (fun _ => ?_) (fun zc142 => absurd zc142 (by decide))
        refine j_aload_n hx d_Mo_clause_154 rfl 2 rfl ?_
        refine j_get hx ck_Mo 19 (by decide) t_1437 (by decide) (sh_111 _ _) rfl d_Mo_clause_155 ?_
        refine j_iload_n hx d_Mo_clause_158 rfl 0 rfl ?_
        have hz159_43 : zin (s9_2 114 2) 3 ((nn s9_2 2)) := by exact hzn
        refine j_aaldk hx ias_readDonkey.1.1 (ias_readDonkey.2.1 _ _) hz159_43 d_Mo_clause_159 ?_
        refine j_astore_n hx [(3, .ref (G.1 (149 + (nn s9_2 2)))), (2, .int (s9_2 114 2)), (1, .int 2), (0, .ref (G.1 111))] d_Mo_clause_160 rfl (by decide) rfl ?_
        refine j_aload_n hx d_Mo_clause_161 rfl 0 rfl ?_
        refine j_iconst (v := 0) hx d_Mo_clause_162 (by decide) ?_
        refine j_aload_n hx d_Mo_clause_163 rfl 3 rfl ?_
        refine j_iconst (v := 0) hx d_Mo_clause_164 (by decide) ?_
        refine j_aload_n hx d_Mo_clause_165 rfl 3 rfl ?_
        refine j_get hx ck_Mo 11 (by decide) t_1429 (by decide) (sh_111 _ _) rfl d_Mo_clause_166 ?_
        refine j_iconst (v := 0) hx d_Mo_clause_169 (by decide) ?_
        have hz170_44 : zin (0) 6 0 := by first | exact ⟨rfl, by decide⟩ | exact zin_nI (by omega) (by first | decide | omega) | exact zin_of (by omega) (by omega)
        refine j_ialdk hx ia_114 hz170_44 d_Mo_clause_170 ?_
        refine j_iconst (v := 1) hx d_Mo_clause_171 (by decide) ?_
        refine j_isub hx d_Mo_clause_172 ?_
        refine j_callVi hx (c_Mo_number hG s9_2 0 ((s9_2 114 0) - 1) (by exact hp2)) mo_Mo_number mv_Mo_number t_1633 (by decide) rfl (by decide) (sh_111 _ _) rfl rfl (Nat.le_of_ble_eq_true rfl) d_Mo_clause_173 ?_
        have hz176_45 : zin (0) 2 0 := by first | exact ⟨rfl, by decide⟩ | exact zin_nI (by omega) (by first | decide | omega) | exact zin_of (by omega) (by omega)
        refine j_iastk hx (ias_readDonkey.2.2 _ hz159_43.2) hz176_45 d_Mo_clause_176 ?_
        obtain ⟨s9_3, eg_3⟩ : ∃ z : St, z = mnO s9_2 (149 + nn s9_2 2) 0 0 (s9_2 114 0 - 1) := ⟨_, rfl⟩
        refine J.to (σ' := s9_3) (by rw [eg_3]; first | done | rfl) rfl ?_
        have hp3 : pB s9_3 := by rw [eg_3]; exact mnO_p hp2 (by omega)
        have ho3 : s9_3 114 = σ 114 := by rw [eg_3, mnO_o (by decide) (by omega), ho2]
        refine j_aload_n hx d_Mo_clause_177 rfl 0 rfl ?_
        refine j_iconst (v := 1) hx d_Mo_clause_178 (by decide) ?_
        refine j_aload_n hx d_Mo_clause_179 rfl 3 rfl ?_
        refine j_iconst (v := 1) hx d_Mo_clause_180 (by decide) ?_
        refine j_bipush (v := 9) hx d_Mo_clause_181 (by decide) ?_
        refine j_callVi hx (c_Mo_number hG s9_3 1 9 (by exact hp3)) mo_Mo_number mv_Mo_number t_1633 (by decide) rfl (by decide) (sh_111 _ _) rfl rfl (Nat.le_of_ble_eq_true rfl) d_Mo_clause_183 ?_
        have hz186_46 : zin (1) 2 1 := by first | exact ⟨rfl, by decide⟩ | exact zin_nI (by omega) (by first | decide | omega) | exact zin_of (by omega) (by omega)
        refine j_iastk hx (ias_readDonkey.2.2 _ hz159_43.2) hz186_46 d_Mo_clause_186 ?_
        obtain ⟨s9_4, eg_4⟩ : ∃ z : St, z = mnO s9_3 (149 + nn s9_2 2) 1 1 9 := ⟨_, rfl⟩
        refine J.to (σ' := s9_4) (by rw [eg_4]; first | done | rfl) rfl ?_
        have hp4 : pB s9_4 := by rw [eg_4]; exact mnO_p hp3 (by omega)
        have ho4 : s9_4 114 = σ 114 := by rw [eg_4, mnO_o (by decide) (by omega), ho3]
        refine j_goto (tgt := 276) hx d_Mo_clause_187 (by decide) ?_
        refine j_iload_n hx d_Mo_clause_276 rfl 2 rfl ?_
        refine j_iconst (v := 5) hx d_Mo_clause_277 (by decide) ?_
        refine j_icmp_ge (tgt := 302) hx d_Mo_clause_278 (by decide) (fun zc278 => absurd zc278 (by decide)) (fun _ => ?_)
        refine j_aload_n hx d_Mo_clause_281 rfl 3 rfl ?_
        refine j_get hx ck_Mo 11 (by decide) t_1429 (by decide) (sh_111 _ _) rfl d_Mo_clause_282 ?_
        refine j_iload_n hx d_Mo_clause_285 rfl 2 rfl ?_
        refine j_dup2_11 hx d_Mo_clause_286 rfl rfl ?_
        have hz287_47 : zin (2) 6 2 := by first | exact ⟨rfl, by decide⟩ | exact zin_nI (by omega) (by first | decide | omega) | exact zin_of (by omega) (by omega)
        refine j_ialdk hx ia_114 hz287_47 d_Mo_clause_287 ?_
        refine j_aload_n hx d_Mo_clause_288 rfl 3 rfl ?_
        refine j_get hx ck_Mo 5 (by decide) t_1423 (by decide) (sh_111 _ _) rfl d_Mo_clause_289 ?_
        refine j_if_ne (tgt := 299) hx d_Mo_clause_292 (by decide) (fun zc292 => ?_) (fun zc292 => ?_)
        · skip
          refine j_iconst (v := 0) hx d_Mo_clause_299 (by decide) ?_
          refine j_iadd hx d_Mo_clause_300 ?_
          have hz301_48 : zin (2) 6 2 := by first | exact ⟨rfl, by decide⟩ | exact zin_nI (by omega) (by first | decide | omega) | exact zin_of (by omega) (by omega)
          refine j_iastk hx ia_114 hz301_48 d_Mo_clause_301 ?_
          obtain ⟨s9_5, eg_5⟩ : ∃ z : St, z = mcC s9_4 2 := ⟨_, rfl⟩
          refine J.to (σ' := s9_5) (by rw [eg_5]; unfold mcC; first | (rw [if_pos zc292]; done) | (rw [if_neg zc292]; done)) rfl ?_
          have hpz : pB s9_5 := by rw [eg_5]; unfold mcC pB; rw [up_o (by decide)]; exact hp4
          refine j_aload_n hx d_Mo_clause_302 rfl 3 rfl ?_
          refine j_bipush (v := 59) hx d_Mo_clause_303 (by decide) ?_
          refine j_callVv hx (c_Mo_sign hG s9_5 59 (by exact hpz)) mo_Mo_sign mv_Mo_sign t_1641 (by decide) rfl (by decide) (sh_111 _ _) rfl rfl (Nat.le_of_ble_eq_true rfl) d_Mo_clause_305 ?_
          exact j_vret hx hq d_Mo_clause_308 (by first | (first | (unfold mclS; rw [if_neg hkm1, if_neg hk0, if_neg hk1, if_pos hk2]; unfold mcE; rw [← eg_1, if_pos zc62, eg_5, eg_4, eg_3, eg_2]; done) | (unfold mclS; rw [if_neg hkm1, if_neg hk0, if_neg hk1, if_pos hk2]; unfold mcE; rw [← eg_1, if_pos zc62, eg_5, eg_4, eg_3, eg_2]; rfl)) | fail)
        · skip
          refine j_iconst (v := 1) hx d_Mo_clause_295 (by decide) ?_
          refine j_goto (tgt := 300) hx d_Mo_clause_296 (by decide) ?_
          refine j_iadd hx d_Mo_clause_300 ?_
          have hz301_49 : zin (2) 6 2 := by first | exact ⟨rfl, by decide⟩ | exact zin_nI (by omega) (by first | decide | omega) | exact zin_of (by omega) (by omega)
          refine j_iastk hx ia_114 hz301_49 d_Mo_clause_301 ?_
          obtain ⟨s9_5, eg_5⟩ : ∃ z : St, z = mcC s9_4 2 := ⟨_, rfl⟩
          refine J.to (σ' := s9_5) (by rw [eg_5]; unfold mcC; first | (rw [if_pos zc292]; done) | (rw [if_neg zc292]; done)) rfl ?_
          have hpz : pB s9_5 := by rw [eg_5]; unfold mcC pB; rw [up_o (by decide)]; exact hp4
          refine j_aload_n hx d_Mo_clause_302 rfl 3 rfl ?_
          refine j_bipush (v := 59) hx d_Mo_clause_303 (by decide) ?_
          refine j_callVv hx (c_Mo_sign hG s9_5 59 (by exact hpz)) mo_Mo_sign mv_Mo_sign t_1641 (by decide) rfl (by decide) (sh_111 _ _) rfl rfl (Nat.le_of_ble_eq_true rfl) d_Mo_clause_305 ?_
          exact j_vret hx hq d_Mo_clause_308 (by first | (first | (unfold mclS; rw [if_neg hkm1, if_neg hk0, if_neg hk1, if_pos hk2]; unfold mcE; rw [← eg_1, if_pos zc62, eg_5, eg_4, eg_3, eg_2]; done) | (unfold mclS; rw [if_neg hkm1, if_neg hk0, if_neg hk1, if_pos hk2]; unfold mcE; rw [← eg_1, if_pos zc62, eg_5, eg_4, eg_3, eg_2]; rfl)) | fail)
      · skip
        exact j_vret hx hq d_Mo_clause_65 (by first | (unfold mclS; rw [if_neg hkm1, if_neg hk0, if_neg hk1, if_pos hk2]; unfold mcE; rw [← eg_1]; exact (if_neg zc62).symm) | fail)
    · skip
      refine j_iload_n hx d_Mo_clause_31 rfl 0 rfl ?_
      refine j_iconst (v := 5) hx d_Mo_clause_32 (by decide) ?_
      refine j_icmp_ge (tgt := 58) hx d_Mo_clause_33 (by decide) (fun zc33 => absurd zc33 (by decide)) (fun _ => ?_)
      refine j_aload_n hx d_Mo_clause_36 rfl 1 rfl ?_
      refine j_get hx ck_Mo 11 (by decide) t_1429 (by decide) (sh_111 _ _) rfl d_Mo_clause_37 ?_
      refine j_iload_n hx d_Mo_clause_40 rfl 0 rfl ?_
      have hz41_50 : zin (2) 6 2 := by first | exact ⟨rfl, by decide⟩ | exact zin_nI (by omega) (by first | decide | omega) | exact zin_of (by omega) (by omega)
      refine j_ialdk hx ia_114 hz41_50 d_Mo_clause_41 ?_
      refine j_iload_n hx d_Mo_clause_42 rfl 0 rfl ?_
      refine j_callSi hx (c_Mo_mostOf hG (mbz σ) 2) mo_Mo_mostOf t_1627 t_1626 (by decide) rfl rfl (Nat.le_of_ble_eq_true rfl) d_Mo_clause_43 ?_
      refine j_icmp_ne (tgt := 58) hx d_Mo_clause_46 (by decide) (fun zc46 => ?_) (fun zc46 => ?_)
      · skip
        obtain ⟨s9_1, eg_1⟩ : ∃ z : St, z = mcA σ 2 3 := ⟨_, rfl⟩
        refine J.to (σ' := s9_1) (by rw [eg_1]; rw [mbz_k (by decide)] at zc28; unfold mcA; first | (rw [if_pos (Or.inl zc28)]; done) | (rw [mbz_o (by decide)] at zc46; first | (rw [if_pos (show σ 111 7 = 60 ∨ σ 114 2 = 3 from Or.inr zc46)]; done) | (rw [if_neg (show ¬ (σ 111 7 = 60 ∨ σ 114 2 = 3) from fun z => z.elim zc28 zc46)]; done))) rfl ?_
        have hp1 : pB s9_1 := by rw [eg_1]; exact mcA_p hp
        have ho1 : s9_1 114 = σ 114 := by rw [eg_1]; exact mcA_o (by decide)
        refine j_aload_n hx d_Mo_clause_58 rfl 1 rfl ?_
        refine j_get hx ck_Mo 5 (by decide) t_1423 (by decide) (sh_111 _ _) rfl d_Mo_clause_59 ?_
        refine j_if_eq (tgt := 66) hx d_Mo_clause_62 (by decide) (fun zc62 => ?_) (fun zc62 => ?_)
        · skip
          refine j_aload_n hx d_Mo_clause_66 rfl 1 rfl ?_
          refine j_callVv hx (c_Mo_skipWord hG s9_1 (by exact hp1)) mo_Mo_skipWord mv_Mo_skipWord t_1629 (by decide) rfl (by decide) (sh_111 _ _) rfl rfl (Nat.le_of_ble_eq_true rfl) d_Mo_clause_67 ?_
          refine j_aload_n hx d_Mo_clause_70 rfl 1 rfl ?_
          refine j_dup hx d_Mo_clause_71 rfl ?_
          refine j_get hx ck_Mo 7 (by decide) t_1425 (by decide) (sh_111 _ _) rfl d_Mo_clause_72 ?_
          refine j_iconst (v := 1) hx d_Mo_clause_75 (by decide) ?_
          refine j_iadd hx d_Mo_clause_76 ?_
          refine j_put hx ck_Mo 7 (by decide) t_1425 (by decide) (sh_111 _ _) rfl (Nat.le_of_ble_eq_true rfl) (sh_111 _ _) d_Mo_clause_77 ?_
          obtain ⟨s9_2, eg_2⟩ : ∃ z : St, z = mc3 s9_1 := ⟨_, rfl⟩
          refine J.to (σ' := s9_2) (by rw [eg_2]; first | done | rfl) rfl ?_
          have hp2 : pB s9_2 := by rw [eg_2]; exact mc3_p hp1
          have ho2 : s9_2 114 = σ 114 := by rw [eg_2, mc3_o (by decide), ho1]
          have hne := (mcA_f (t := σ) (j := 2) (most := 3) (by rw [← eg_1]; first | exact zc62 | exact Decidable.not_not.mp zc62)).1
          have hzn : zin (s9_2 114 2) 3 (nn s9_2 2) := by unfold nn; rw [ho2]; exact nn_lt (m := 3) hT.2.2.1.1 hT.2.2.1.2 rfl hne
          refine j_aload_n hx d_Mo_clause_80 rfl 1 rfl ?_
          refine j_get hx ck_Mo 11 (by decide) t_1429 (by decide) (sh_111 _ _) rfl d_Mo_clause_81 ?_
          refine j_iload_n hx d_Mo_clause_84 rfl 0 rfl ?_
          have hz85_51 : zin (2) 6 2 := by first | exact ⟨rfl, by decide⟩ | exact zin_nI (by omega) (by first | decide | omega) | exact zin_of (by omega) (by omega)
          refine j_ialdk hx ia_114 hz85_51 d_Mo_clause_85 ?_
          refine j_istore_n hx [(2, .int (s9_2 114 2)), (1, .int 2), (0, .ref (G.1 111))] d_Mo_clause_86 rfl (by decide) rfl ?_
          refine j_iload_n hx d_Mo_clause_87 rfl 1 rfl ?_
          refine j_tableIn (x := 2) (tgt := 140) (off := 52) hx d_Mo_clause_88 (by decide) (by decide) (by decide) (by decide) ?_
          refine j_iload_n hx d_Mo_clause_140 rfl 1 rfl ?_
          refine j_iconst (v := 1) hx d_Mo_clause_141 (by decide) ?_
          refine j_icmp_ne (tgt := 154) hx d_Mo_clause_142 (by decide) (fun _ => ?_) (fun zc142 => absurd zc142 (by decide))
          refine j_aload_n hx d_Mo_clause_154 rfl 2 rfl ?_
          refine j_get hx ck_Mo 19 (by decide) t_1437 (by decide) (sh_111 _ _) rfl d_Mo_clause_155 ?_
          refine j_iload_n hx d_Mo_clause_158 rfl 0 rfl ?_
          have hz159_52 : zin (s9_2 114 2) 3 ((nn s9_2 2)) := by exact hzn
          refine j_aaldk hx ias_readDonkey.1.1 (ias_readDonkey.2.1 _ _) hz159_52 d_Mo_clause_159 ?_
          refine j_astore_n hx [(3, .ref (G.1 (149 + (nn s9_2 2)))), (2, .int (s9_2 114 2)), (1, .int 2), (0, .ref (G.1 111))] d_Mo_clause_160 rfl (by decide) rfl ?_
          refine j_aload_n hx d_Mo_clause_161 rfl 0 rfl ?_
          refine j_iconst (v := 0) hx d_Mo_clause_162 (by decide) ?_
          refine j_aload_n hx d_Mo_clause_163 rfl 3 rfl ?_
          refine j_iconst (v := 0) hx d_Mo_clause_164 (by decide) ?_
          refine j_aload_n hx d_Mo_clause_165 rfl 3 rfl ?_
          refine j_get hx ck_Mo 11 (by decide) t_1429 (by decide) (sh_111 _ _) rfl d_Mo_clause_166 ?_
          refine j_iconst (v := 0) hx d_Mo_clause_169 (by decide) ?_
          have hz170_53 : zin (0) 6 0 := by first | exact ⟨rfl, by decide⟩ | exact zin_nI (by omega) (by first | decide | omega) | exact zin_of (by omega) (by omega)
          refine j_ialdk hx ia_114 hz170_53 d_Mo_clause_170 ?_
          refine j_iconst (v := 1) hx d_Mo_clause_171 (by decide) ?_
          refine j_isub hx d_Mo_clause_172 ?_
          refine j_callVi hx (c_Mo_number hG s9_2 0 ((s9_2 114 0) - 1) (by exact hp2)) mo_Mo_number mv_Mo_number t_1633 (by decide) rfl (by decide) (sh_111 _ _) rfl rfl (Nat.le_of_ble_eq_true rfl) d_Mo_clause_173 ?_
          have hz176_54 : zin (0) 2 0 := by first | exact ⟨rfl, by decide⟩ | exact zin_nI (by omega) (by first | decide | omega) | exact zin_of (by omega) (by omega)
          refine j_iastk hx (ias_readDonkey.2.2 _ hz159_52.2) hz176_54 d_Mo_clause_176 ?_
          obtain ⟨s9_3, eg_3⟩ : ∃ z : St, z = mnO s9_2 (149 + nn s9_2 2) 0 0 (s9_2 114 0 - 1) := ⟨_, rfl⟩
          refine J.to (σ' := s9_3) (by rw [eg_3]; first | done | rfl) rfl ?_
          have hp3 : pB s9_3 := by rw [eg_3]; exact mnO_p hp2 (by omega)
          have ho3 : s9_3 114 = σ 114 := by rw [eg_3, mnO_o (by decide) (by omega), ho2]
          refine j_aload_n hx d_Mo_clause_177 rfl 0 rfl ?_
          refine j_iconst (v := 1) hx d_Mo_clause_178 (by decide) ?_
          refine j_aload_n hx d_Mo_clause_179 rfl 3 rfl ?_
          refine j_iconst (v := 1) hx d_Mo_clause_180 (by decide) ?_
          refine j_bipush (v := 9) hx d_Mo_clause_181 (by decide) ?_
          refine j_callVi hx (c_Mo_number hG s9_3 1 9 (by exact hp3)) mo_Mo_number mv_Mo_number t_1633 (by decide) rfl (by decide) (sh_111 _ _) rfl rfl (Nat.le_of_ble_eq_true rfl) d_Mo_clause_183 ?_
          have hz186_55 : zin (1) 2 1 := by first | exact ⟨rfl, by decide⟩ | exact zin_nI (by omega) (by first | decide | omega) | exact zin_of (by omega) (by omega)
          refine j_iastk hx (ias_readDonkey.2.2 _ hz159_52.2) hz186_55 d_Mo_clause_186 ?_
          obtain ⟨s9_4, eg_4⟩ : ∃ z : St, z = mnO s9_3 (149 + nn s9_2 2) 1 1 9 := ⟨_, rfl⟩
          refine J.to (σ' := s9_4) (by rw [eg_4]; first | done | rfl) rfl ?_
          have hp4 : pB s9_4 := by rw [eg_4]; exact mnO_p hp3 (by omega)
          have ho4 : s9_4 114 = σ 114 := by rw [eg_4, mnO_o (by decide) (by omega), ho3]
          refine j_goto (tgt := 276) hx d_Mo_clause_187 (by decide) ?_
          refine j_iload_n hx d_Mo_clause_276 rfl 2 rfl ?_
          refine j_iconst (v := 5) hx d_Mo_clause_277 (by decide) ?_
          refine j_icmp_ge (tgt := 302) hx d_Mo_clause_278 (by decide) (fun zc278 => absurd zc278 (by decide)) (fun _ => ?_)
          refine j_aload_n hx d_Mo_clause_281 rfl 3 rfl ?_
          refine j_get hx ck_Mo 11 (by decide) t_1429 (by decide) (sh_111 _ _) rfl d_Mo_clause_282 ?_
          refine j_iload_n hx d_Mo_clause_285 rfl 2 rfl ?_
          refine j_dup2_11 hx d_Mo_clause_286 rfl rfl ?_
          have hz287_56 : zin (2) 6 2 := by first | exact ⟨rfl, by decide⟩ | exact zin_nI (by omega) (by first | decide | omega) | exact zin_of (by omega) (by omega)
          refine j_ialdk hx ia_114 hz287_56 d_Mo_clause_287 ?_
          refine j_aload_n hx d_Mo_clause_288 rfl 3 rfl ?_
          refine j_get hx ck_Mo 5 (by decide) t_1423 (by decide) (sh_111 _ _) rfl d_Mo_clause_289 ?_
          refine j_if_ne (tgt := 299) hx d_Mo_clause_292 (by decide) (fun zc292 => ?_) (fun zc292 => ?_)
          · skip
            refine j_iconst (v := 0) hx d_Mo_clause_299 (by decide) ?_
            refine j_iadd hx d_Mo_clause_300 ?_
            have hz301_57 : zin (2) 6 2 := by first | exact ⟨rfl, by decide⟩ | exact zin_nI (by omega) (by first | decide | omega) | exact zin_of (by omega) (by omega)
            refine j_iastk hx ia_114 hz301_57 d_Mo_clause_301 ?_
            obtain ⟨s9_5, eg_5⟩ : ∃ z : St, z = mcC s9_4 2 := ⟨_, rfl⟩
            refine J.to (σ' := s9_5) (by rw [eg_5]; unfold mcC; first | (rw [if_pos zc292]; done) | (rw [if_neg zc292]; done)) rfl ?_
            have hpz : pB s9_5 := by rw [eg_5]; unfold mcC pB; rw [up_o (by decide)]; exact hp4
            refine j_aload_n hx d_Mo_clause_302 rfl 3 rfl ?_
            refine j_bipush (v := 59) hx d_Mo_clause_303 (by decide) ?_
            refine j_callVv hx (c_Mo_sign hG s9_5 59 (by exact hpz)) mo_Mo_sign mv_Mo_sign t_1641 (by decide) rfl (by decide) (sh_111 _ _) rfl rfl (Nat.le_of_ble_eq_true rfl) d_Mo_clause_305 ?_
            exact j_vret hx hq d_Mo_clause_308 (by first | (first | (unfold mclS; rw [if_neg hkm1, if_neg hk0, if_neg hk1, if_pos hk2]; unfold mcE; rw [← eg_1, if_pos zc62, eg_5, eg_4, eg_3, eg_2]; done) | (unfold mclS; rw [if_neg hkm1, if_neg hk0, if_neg hk1, if_pos hk2]; unfold mcE; rw [← eg_1, if_pos zc62, eg_5, eg_4, eg_3, eg_2]; rfl)) | fail)
          · skip
            refine j_iconst (v := 1) hx d_Mo_clause_295 (by decide) ?_
            refine j_goto (tgt := 300) hx d_Mo_clause_296 (by decide) ?_
            refine j_iadd hx d_Mo_clause_300 ?_
            have hz301_58 : zin (2) 6 2 := by first | exact ⟨rfl, by decide⟩ | exact zin_nI (by omega) (by first | decide | omega) | exact zin_of (by omega) (by omega)
            refine j_iastk hx ia_114 hz301_58 d_Mo_clause_301 ?_
            obtain ⟨s9_5, eg_5⟩ : ∃ z : St, z = mcC s9_4 2 := ⟨_, rfl⟩
            refine J.to (σ' := s9_5) (by rw [eg_5]; unfold mcC; first | (rw [if_pos zc292]; done) | (rw [if_neg zc292]; done)) rfl ?_
            have hpz : pB s9_5 := by rw [eg_5]; unfold mcC pB; rw [up_o (by decide)]; exact hp4
            refine j_aload_n hx d_Mo_clause_302 rfl 3 rfl ?_
            refine j_bipush (v := 59) hx d_Mo_clause_303 (by decide) ?_
            refine j_callVv hx (c_Mo_sign hG s9_5 59 (by exact hpz)) mo_Mo_sign mv_Mo_sign t_1641 (by decide) rfl (by decide) (sh_111 _ _) rfl rfl (Nat.le_of_ble_eq_true rfl) d_Mo_clause_305 ?_
            exact j_vret hx hq d_Mo_clause_308 (by first | (first | (unfold mclS; rw [if_neg hkm1, if_neg hk0, if_neg hk1, if_pos hk2]; unfold mcE; rw [← eg_1, if_pos zc62, eg_5, eg_4, eg_3, eg_2]; done) | (unfold mclS; rw [if_neg hkm1, if_neg hk0, if_neg hk1, if_pos hk2]; unfold mcE; rw [← eg_1, if_pos zc62, eg_5, eg_4, eg_3, eg_2]; rfl)) | fail)
        · skip
          exact j_vret hx hq d_Mo_clause_65 (by first | (unfold mclS; rw [if_neg hkm1, if_neg hk0, if_neg hk1, if_pos hk2]; unfold mcE; rw [← eg_1]; exact (if_neg zc62).symm) | fail)
      · skip
        refine j_aload_n hx d_Mo_clause_49 rfl 1 rfl ?_
        refine j_iconst (v := 3) hx d_Mo_clause_50 (by decide) ?_
        refine j_aload_n hx d_Mo_clause_51 rfl 1 rfl ?_
        refine j_get hx ck_Mo 4 (by decide) t_1422 (by decide) (sh_111 _ _) rfl d_Mo_clause_52 ?_
        refine j_callVv hx (c_Mo_wrong hG (mbz σ) 3 ((mbz σ) 111 4)) mo_Mo_wrong mv_Mo_wrong t_1622 (by decide) rfl (by decide) (sh_111 _ _) rfl rfl (Nat.le_of_ble_eq_true rfl) d_Mo_clause_55 ?_
        obtain ⟨s9_1, eg_1⟩ : ∃ z : St, z = mcA σ 2 3 := ⟨_, rfl⟩
        refine J.to (σ' := s9_1) (by rw [eg_1]; rw [mbz_k (by decide)] at zc28; unfold mcA; first | (rw [if_pos (Or.inl zc28)]; done) | (rw [mbz_o (by decide)] at zc46; first | (rw [if_pos (show σ 111 7 = 60 ∨ σ 114 2 = 3 from Or.inr zc46)]; done) | (rw [if_neg (show ¬ (σ 111 7 = 60 ∨ σ 114 2 = 3) from fun z => z.elim zc28 zc46)]; done))) rfl ?_
        have hp1 : pB s9_1 := by rw [eg_1]; exact mcA_p hp
        have ho1 : s9_1 114 = σ 114 := by rw [eg_1]; exact mcA_o (by decide)
        refine j_aload_n hx d_Mo_clause_58 rfl 1 rfl ?_
        refine j_get hx ck_Mo 5 (by decide) t_1423 (by decide) (sh_111 _ _) rfl d_Mo_clause_59 ?_
        refine j_if_eq (tgt := 66) hx d_Mo_clause_62 (by decide) (fun zc62 => ?_) (fun zc62 => ?_)
        · skip
          refine j_aload_n hx d_Mo_clause_66 rfl 1 rfl ?_
          refine j_callVv hx (c_Mo_skipWord hG s9_1 (by exact hp1)) mo_Mo_skipWord mv_Mo_skipWord t_1629 (by decide) rfl (by decide) (sh_111 _ _) rfl rfl (Nat.le_of_ble_eq_true rfl) d_Mo_clause_67 ?_
          refine j_aload_n hx d_Mo_clause_70 rfl 1 rfl ?_
          refine j_dup hx d_Mo_clause_71 rfl ?_
          refine j_get hx ck_Mo 7 (by decide) t_1425 (by decide) (sh_111 _ _) rfl d_Mo_clause_72 ?_
          refine j_iconst (v := 1) hx d_Mo_clause_75 (by decide) ?_
          refine j_iadd hx d_Mo_clause_76 ?_
          refine j_put hx ck_Mo 7 (by decide) t_1425 (by decide) (sh_111 _ _) rfl (Nat.le_of_ble_eq_true rfl) (sh_111 _ _) d_Mo_clause_77 ?_
          obtain ⟨s9_2, eg_2⟩ : ∃ z : St, z = mc3 s9_1 := ⟨_, rfl⟩
          refine J.to (σ' := s9_2) (by rw [eg_2]; first | done | rfl) rfl ?_
          have hp2 : pB s9_2 := by rw [eg_2]; exact mc3_p hp1
          have ho2 : s9_2 114 = σ 114 := by rw [eg_2, mc3_o (by decide), ho1]
          have hne := (mcA_f (t := σ) (j := 2) (most := 3) (by rw [← eg_1]; first | exact zc62 | exact Decidable.not_not.mp zc62)).1
          have hzn : zin (s9_2 114 2) 3 (nn s9_2 2) := by unfold nn; rw [ho2]; exact nn_lt (m := 3) hT.2.2.1.1 hT.2.2.1.2 rfl hne
          refine j_aload_n hx d_Mo_clause_80 rfl 1 rfl ?_
          refine j_get hx ck_Mo 11 (by decide) t_1429 (by decide) (sh_111 _ _) rfl d_Mo_clause_81 ?_
          refine j_iload_n hx d_Mo_clause_84 rfl 0 rfl ?_
          have hz85_59 : zin (2) 6 2 := by first | exact ⟨rfl, by decide⟩ | exact zin_nI (by omega) (by first | decide | omega) | exact zin_of (by omega) (by omega)
          refine j_ialdk hx ia_114 hz85_59 d_Mo_clause_85 ?_
          refine j_istore_n hx [(2, .int (s9_2 114 2)), (1, .int 2), (0, .ref (G.1 111))] d_Mo_clause_86 rfl (by decide) rfl ?_
          refine j_iload_n hx d_Mo_clause_87 rfl 1 rfl ?_
          refine j_tableIn (x := 2) (tgt := 140) (off := 52) hx d_Mo_clause_88 (by decide) (by decide) (by decide) (by decide) ?_
          refine j_iload_n hx d_Mo_clause_140 rfl 1 rfl ?_
          refine j_iconst (v := 1) hx d_Mo_clause_141 (by decide) ?_
          refine j_icmp_ne (tgt := 154) hx d_Mo_clause_142 (by decide) (fun _ => ?_) (fun zc142 => absurd zc142 (by decide))
          refine j_aload_n hx d_Mo_clause_154 rfl 2 rfl ?_
          refine j_get hx ck_Mo 19 (by decide) t_1437 (by decide) (sh_111 _ _) rfl d_Mo_clause_155 ?_
          refine j_iload_n hx d_Mo_clause_158 rfl 0 rfl ?_
          have hz159_60 : zin (s9_2 114 2) 3 ((nn s9_2 2)) := by exact hzn
          refine j_aaldk hx ias_readDonkey.1.1 (ias_readDonkey.2.1 _ _) hz159_60 d_Mo_clause_159 ?_
          refine j_astore_n hx [(3, .ref (G.1 (149 + (nn s9_2 2)))), (2, .int (s9_2 114 2)), (1, .int 2), (0, .ref (G.1 111))] d_Mo_clause_160 rfl (by decide) rfl ?_
          refine j_aload_n hx d_Mo_clause_161 rfl 0 rfl ?_
          refine j_iconst (v := 0) hx d_Mo_clause_162 (by decide) ?_
          refine j_aload_n hx d_Mo_clause_163 rfl 3 rfl ?_
          refine j_iconst (v := 0) hx d_Mo_clause_164 (by decide) ?_
          refine j_aload_n hx d_Mo_clause_165 rfl 3 rfl ?_
          refine j_get hx ck_Mo 11 (by decide) t_1429 (by decide) (sh_111 _ _) rfl d_Mo_clause_166 ?_
          refine j_iconst (v := 0) hx d_Mo_clause_169 (by decide) ?_
          have hz170_61 : zin (0) 6 0 := by first | exact ⟨rfl, by decide⟩ | exact zin_nI (by omega) (by first | decide | omega) | exact zin_of (by omega) (by omega)
          refine j_ialdk hx ia_114 hz170_61 d_Mo_clause_170 ?_
          refine j_iconst (v := 1) hx d_Mo_clause_171 (by decide) ?_
          refine j_isub hx d_Mo_clause_172 ?_
          refine j_callVi hx (c_Mo_number hG s9_2 0 ((s9_2 114 0) - 1) (by exact hp2)) mo_Mo_number mv_Mo_number t_1633 (by decide) rfl (by decide) (sh_111 _ _) rfl rfl (Nat.le_of_ble_eq_true rfl) d_Mo_clause_173 ?_
          have hz176_62 : zin (0) 2 0 := by first | exact ⟨rfl, by decide⟩ | exact zin_nI (by omega) (by first | decide | omega) | exact zin_of (by omega) (by omega)
          refine j_iastk hx (ias_readDonkey.2.2 _ hz159_60.2) hz176_62 d_Mo_clause_176 ?_
          obtain ⟨s9_3, eg_3⟩ : ∃ z : St, z = mnO s9_2 (149 + nn s9_2 2) 0 0 (s9_2 114 0 - 1) := ⟨_, rfl⟩
          refine J.to (σ' := s9_3) (by rw [eg_3]; first | done | rfl) rfl ?_
          have hp3 : pB s9_3 := by rw [eg_3]; exact mnO_p hp2 (by omega)
          have ho3 : s9_3 114 = σ 114 := by rw [eg_3, mnO_o (by decide) (by omega), ho2]
          refine j_aload_n hx d_Mo_clause_177 rfl 0 rfl ?_
          refine j_iconst (v := 1) hx d_Mo_clause_178 (by decide) ?_
          refine j_aload_n hx d_Mo_clause_179 rfl 3 rfl ?_
          refine j_iconst (v := 1) hx d_Mo_clause_180 (by decide) ?_
          refine j_bipush (v := 9) hx d_Mo_clause_181 (by decide) ?_
          refine j_callVi hx (c_Mo_number hG s9_3 1 9 (by exact hp3)) mo_Mo_number mv_Mo_number t_1633 (by decide) rfl (by decide) (sh_111 _ _) rfl rfl (Nat.le_of_ble_eq_true rfl) d_Mo_clause_183 ?_
          have hz186_63 : zin (1) 2 1 := by first | exact ⟨rfl, by decide⟩ | exact zin_nI (by omega) (by first | decide | omega) | exact zin_of (by omega) (by omega)
          refine j_iastk hx (ias_readDonkey.2.2 _ hz159_60.2) hz186_63 d_Mo_clause_186 ?_
          obtain ⟨s9_4, eg_4⟩ : ∃ z : St, z = mnO s9_3 (149 + nn s9_2 2) 1 1 9 := ⟨_, rfl⟩
          refine J.to (σ' := s9_4) (by rw [eg_4]; first | done | rfl) rfl ?_
          have hp4 : pB s9_4 := by rw [eg_4]; exact mnO_p hp3 (by omega)
          have ho4 : s9_4 114 = σ 114 := by rw [eg_4, mnO_o (by decide) (by omega), ho3]
          refine j_goto (tgt := 276) hx d_Mo_clause_187 (by decide) ?_
          refine j_iload_n hx d_Mo_clause_276 rfl 2 rfl ?_
          refine j_iconst (v := 5) hx d_Mo_clause_277 (by decide) ?_
          refine j_icmp_ge (tgt := 302) hx d_Mo_clause_278 (by decide) (fun zc278 => absurd zc278 (by decide)) (fun _ => ?_)
          refine j_aload_n hx d_Mo_clause_281 rfl 3 rfl ?_
          refine j_get hx ck_Mo 11 (by decide) t_1429 (by decide) (sh_111 _ _) rfl d_Mo_clause_282 ?_
          refine j_iload_n hx d_Mo_clause_285 rfl 2 rfl ?_
          refine j_dup2_11 hx d_Mo_clause_286 rfl rfl ?_
          have hz287_64 : zin (2) 6 2 := by first | exact ⟨rfl, by decide⟩ | exact zin_nI (by omega) (by first | decide | omega) | exact zin_of (by omega) (by omega)
          refine j_ialdk hx ia_114 hz287_64 d_Mo_clause_287 ?_
          refine j_aload_n hx d_Mo_clause_288 rfl 3 rfl ?_
          refine j_get hx ck_Mo 5 (by decide) t_1423 (by decide) (sh_111 _ _) rfl d_Mo_clause_289 ?_
          refine j_if_ne (tgt := 299) hx d_Mo_clause_292 (by decide) (fun zc292 => ?_) (fun zc292 => ?_)
          · skip
            refine j_iconst (v := 0) hx d_Mo_clause_299 (by decide) ?_
            refine j_iadd hx d_Mo_clause_300 ?_
            have hz301_65 : zin (2) 6 2 := by first | exact ⟨rfl, by decide⟩ | exact zin_nI (by omega) (by first | decide | omega) | exact zin_of (by omega) (by omega)
            refine j_iastk hx ia_114 hz301_65 d_Mo_clause_301 ?_
            obtain ⟨s9_5, eg_5⟩ : ∃ z : St, z = mcC s9_4 2 := ⟨_, rfl⟩
            refine J.to (σ' := s9_5) (by rw [eg_5]; unfold mcC; first | (rw [if_pos zc292]; done) | (rw [if_neg zc292]; done)) rfl ?_
            have hpz : pB s9_5 := by rw [eg_5]; unfold mcC pB; rw [up_o (by decide)]; exact hp4
            refine j_aload_n hx d_Mo_clause_302 rfl 3 rfl ?_
            refine j_bipush (v := 59) hx d_Mo_clause_303 (by decide) ?_
            refine j_callVv hx (c_Mo_sign hG s9_5 59 (by exact hpz)) mo_Mo_sign mv_Mo_sign t_1641 (by decide) rfl (by decide) (sh_111 _ _) rfl rfl (Nat.le_of_ble_eq_true rfl) d_Mo_clause_305 ?_
            exact j_vret hx hq d_Mo_clause_308 (by first | (first | (unfold mclS; rw [if_neg hkm1, if_neg hk0, if_neg hk1, if_pos hk2]; unfold mcE; rw [← eg_1, if_pos zc62, eg_5, eg_4, eg_3, eg_2]; done) | (unfold mclS; rw [if_neg hkm1, if_neg hk0, if_neg hk1, if_pos hk2]; unfold mcE; rw [← eg_1, if_pos zc62, eg_5, eg_4, eg_3, eg_2]; rfl)) | fail)
          · skip
            refine j_iconst (v := 1) hx d_Mo_clause_295 (by decide) ?_
            refine j_goto (tgt := 300) hx d_Mo_clause_296 (by decide) ?_
            refine j_iadd hx d_Mo_clause_300 ?_
            have hz301_66 : zin (2) 6 2 := by first | exact ⟨rfl, by decide⟩ | exact zin_nI (by omega) (by first | decide | omega) | exact zin_of (by omega) (by omega)
            refine j_iastk hx ia_114 hz301_66 d_Mo_clause_301 ?_
            obtain ⟨s9_5, eg_5⟩ : ∃ z : St, z = mcC s9_4 2 := ⟨_, rfl⟩
            refine J.to (σ' := s9_5) (by rw [eg_5]; unfold mcC; first | (rw [if_pos zc292]; done) | (rw [if_neg zc292]; done)) rfl ?_
            have hpz : pB s9_5 := by rw [eg_5]; unfold mcC pB; rw [up_o (by decide)]; exact hp4
            refine j_aload_n hx d_Mo_clause_302 rfl 3 rfl ?_
            refine j_bipush (v := 59) hx d_Mo_clause_303 (by decide) ?_
            refine j_callVv hx (c_Mo_sign hG s9_5 59 (by exact hpz)) mo_Mo_sign mv_Mo_sign t_1641 (by decide) rfl (by decide) (sh_111 _ _) rfl rfl (Nat.le_of_ble_eq_true rfl) d_Mo_clause_305 ?_
            exact j_vret hx hq d_Mo_clause_308 (by first | (first | (unfold mclS; rw [if_neg hkm1, if_neg hk0, if_neg hk1, if_pos hk2]; unfold mcE; rw [← eg_1, if_pos zc62, eg_5, eg_4, eg_3, eg_2]; done) | (unfold mclS; rw [if_neg hkm1, if_neg hk0, if_neg hk1, if_pos hk2]; unfold mcE; rw [← eg_1, if_pos zc62, eg_5, eg_4, eg_3, eg_2]; rfl)) | fail)
        · skip
          exact j_vret hx hq d_Mo_clause_65 (by first | (unfold mclS; rw [if_neg hkm1, if_neg hk0, if_neg hk1, if_pos hk2]; unfold mcE; rw [← eg_1]; exact (if_neg zc62).symm) | fail)
  by_cases hk3 : mkV σ = 3
  · skip
    refine J.to (ls' := [(1, .int 3), (0, .ref (G.1 111))]) rfl (by rw [hk3]) ?_
    refine j_iload_n hx d_Mo_clause_5 rfl 0 rfl ?_
    refine j_iconst (v := (-1)) hx d_Mo_clause_6 (by decide) ?_
    refine j_icmp_ne (tgt := 22) hx d_Mo_clause_7 (by decide) (fun _ => ?_) (fun zc7 => absurd zc7 (by decide))
    refine j_aload_n hx d_Mo_clause_22 rfl 1 rfl ?_
    refine j_get hx ck_Mo 7 (by decide) t_1425 (by decide) (sh_111 _ _) rfl d_Mo_clause_23 ?_
    refine j_bipush (v := 60) hx d_Mo_clause_26 (by decide) ?_
    refine j_icmp_eq (tgt := 49) hx d_Mo_clause_28 (by decide) (fun zc28 => ?_) (fun zc28 => ?_)
    · skip
      refine j_aload_n hx d_Mo_clause_49 rfl 1 rfl ?_
      refine j_iconst (v := 3) hx d_Mo_clause_50 (by decide) ?_
      refine j_aload_n hx d_Mo_clause_51 rfl 1 rfl ?_
      refine j_get hx ck_Mo 4 (by decide) t_1422 (by decide) (sh_111 _ _) rfl d_Mo_clause_52 ?_
      refine j_callVv hx (c_Mo_wrong hG (mbz σ) 3 ((mbz σ) 111 4)) mo_Mo_wrong mv_Mo_wrong t_1622 (by decide) rfl (by decide) (sh_111 _ _) rfl rfl (Nat.le_of_ble_eq_true rfl) d_Mo_clause_55 ?_
      obtain ⟨s9_1, eg_1⟩ : ∃ z : St, z = mcA σ 3 6 := ⟨_, rfl⟩
      refine J.to (σ' := s9_1) (by rw [eg_1]; rw [mbz_k (by decide)] at zc28; unfold mcA; first | (rw [if_pos (Or.inl zc28)]; done) | (rw [mbz_o (by decide)] at zc46; first | (rw [if_pos (show σ 111 7 = 60 ∨ σ 114 3 = 6 from Or.inr zc46)]; done) | (rw [if_neg (show ¬ (σ 111 7 = 60 ∨ σ 114 3 = 6) from fun z => z.elim zc28 zc46)]; done))) rfl ?_
      have hp1 : pB s9_1 := by rw [eg_1]; exact mcA_p hp
      have ho1 : s9_1 114 = σ 114 := by rw [eg_1]; exact mcA_o (by decide)
      refine j_aload_n hx d_Mo_clause_58 rfl 1 rfl ?_
      refine j_get hx ck_Mo 5 (by decide) t_1423 (by decide) (sh_111 _ _) rfl d_Mo_clause_59 ?_
      refine j_if_eq (tgt := 66) hx d_Mo_clause_62 (by decide) (fun zc62 => ?_) (fun zc62 => ?_)
      · skip
        refine j_aload_n hx d_Mo_clause_66 rfl 1 rfl ?_
        refine j_callVv hx (c_Mo_skipWord hG s9_1 (by exact hp1)) mo_Mo_skipWord mv_Mo_skipWord t_1629 (by decide) rfl (by decide) (sh_111 _ _) rfl rfl (Nat.le_of_ble_eq_true rfl) d_Mo_clause_67 ?_
        refine j_aload_n hx d_Mo_clause_70 rfl 1 rfl ?_
        refine j_dup hx d_Mo_clause_71 rfl ?_
        refine j_get hx ck_Mo 7 (by decide) t_1425 (by decide) (sh_111 _ _) rfl d_Mo_clause_72 ?_
        refine j_iconst (v := 1) hx d_Mo_clause_75 (by decide) ?_
        refine j_iadd hx d_Mo_clause_76 ?_
        refine j_put hx ck_Mo 7 (by decide) t_1425 (by decide) (sh_111 _ _) rfl (Nat.le_of_ble_eq_true rfl) (sh_111 _ _) d_Mo_clause_77 ?_
        obtain ⟨s9_2, eg_2⟩ : ∃ z : St, z = mc3 s9_1 := ⟨_, rfl⟩
        refine J.to (σ' := s9_2) (by rw [eg_2]; first | done | rfl) rfl ?_
        have hp2 : pB s9_2 := by rw [eg_2]; exact mc3_p hp1
        have ho2 : s9_2 114 = σ 114 := by rw [eg_2, mc3_o (by decide), ho1]
        have hne := (mcA_f (t := σ) (j := 3) (most := 6) (by rw [← eg_1]; first | exact zc62 | exact Decidable.not_not.mp zc62)).1
        have hzn : zin (s9_2 114 3) 6 (nn s9_2 3) := by unfold nn; rw [ho2]; exact nn_lt (m := 6) hT.2.2.2.1.1 hT.2.2.2.1.2 rfl hne
        refine j_aload_n hx d_Mo_clause_80 rfl 1 rfl ?_
        refine j_get hx ck_Mo 11 (by decide) t_1429 (by decide) (sh_111 _ _) rfl d_Mo_clause_81 ?_
        refine j_iload_n hx d_Mo_clause_84 rfl 0 rfl ?_
        have hz85_67 : zin (3) 6 3 := by first | exact ⟨rfl, by decide⟩ | exact zin_nI (by omega) (by first | decide | omega) | exact zin_of (by omega) (by omega)
        refine j_ialdk hx ia_114 hz85_67 d_Mo_clause_85 ?_
        refine j_istore_n hx [(2, .int (s9_2 114 3)), (1, .int 3), (0, .ref (G.1 111))] d_Mo_clause_86 rfl (by decide) rfl ?_
        refine j_iload_n hx d_Mo_clause_87 rfl 1 rfl ?_
        refine j_tableIn (x := 3) (tgt := 190) (off := 102) hx d_Mo_clause_88 (by decide) (by decide) (by decide) (by decide) ?_
        refine j_aload_n hx d_Mo_clause_190 rfl 2 rfl ?_
        refine j_get hx ck_Mo 21 (by decide) t_1439 (by decide) (sh_111 _ _) rfl d_Mo_clause_191 ?_
        refine j_iload_n hx d_Mo_clause_194 rfl 0 rfl ?_
        have hz195_68 : zin (s9_2 114 3) 6 ((nn s9_2 3)) := by exact hzn
        refine j_aaldk hx ias_readShip.1.1 (ias_readShip.2.1 _ _) hz195_68 d_Mo_clause_195 ?_
        refine j_astore_n hx [(3, .ref (G.1 (155 + (nn s9_2 3)))), (2, .int (s9_2 114 3)), (1, .int 3), (0, .ref (G.1 111))] d_Mo_clause_196 rfl (by decide) rfl ?_
        refine j_aload_n hx d_Mo_clause_197 rfl 0 rfl ?_
        refine j_iconst (v := 0) hx d_Mo_clause_198 (by decide) ?_
        refine j_aload_n hx d_Mo_clause_199 rfl 3 rfl ?_
        refine j_iconst (v := 0) hx d_Mo_clause_200 (by decide) ?_
        refine j_bipush (v := 40) hx d_Mo_clause_201 (by decide) ?_
        refine j_callVi hx (c_Mo_number hG s9_2 0 40 (by exact hp2)) mo_Mo_number mv_Mo_number t_1633 (by decide) rfl (by decide) (sh_111 _ _) rfl rfl (Nat.le_of_ble_eq_true rfl) d_Mo_clause_203 ?_
        have hz206_69 : zin (0) 4 0 := by first | exact ⟨rfl, by decide⟩ | exact zin_nI (by omega) (by first | decide | omega) | exact zin_of (by omega) (by omega)
        refine j_iastk hx (ias_readShip.2.2 _ hz195_68.2) hz206_69 d_Mo_clause_206 ?_
        obtain ⟨s9_3, eg_3⟩ : ∃ z : St, z = mnO s9_2 (155 + nn s9_2 3) 0 0 40 := ⟨_, rfl⟩
        refine J.to (σ' := s9_3) (by rw [eg_3]; first | done | rfl) rfl ?_
        have hp3 : pB s9_3 := by rw [eg_3]; exact mnO_p hp2 (by omega)
        have ho3 : s9_3 114 = σ 114 := by rw [eg_3, mnO_o (by decide) (by omega), ho2]
        refine j_iconst (v := 1) hx d_Mo_clause_207 (by decide) ?_
        refine j_istore hx [(4, .int 1), (3, .ref (G.1 (155 + (nn s9_2 3)))), (2, .int (s9_2 114 3)), (1, .int 3), (0, .ref (G.1 111))] d_Mo_clause_208 (by decide) rfl ?_
        refine j_iload hx d_Mo_clause_210 0 rfl ?_
        refine j_iconst (v := 4) hx d_Mo_clause_212 (by decide) ?_
        refine j_icmp_ge (tgt := 233) hx d_Mo_clause_213 (by decide) (fun zc213 => absurd zc213 (by decide)) (fun _ => ?_)
        refine j_aload_n hx d_Mo_clause_216 rfl 1 rfl ?_
        refine j_iload hx d_Mo_clause_217 0 rfl ?_
        refine j_aload_n hx d_Mo_clause_219 rfl 4 rfl ?_
        refine j_iconst (v := 0) hx d_Mo_clause_220 (by decide) ?_
        refine j_bipush (v := 9) hx d_Mo_clause_221 (by decide) ?_
        refine j_callVi hx (c_Mo_number hG s9_3 0 9 (by first | exact hp5 | exact hp4 | exact hp3)) mo_Mo_number mv_Mo_number t_1633 (by decide) rfl (by decide) (sh_111 _ _) rfl rfl (Nat.le_of_ble_eq_true rfl) d_Mo_clause_223 ?_
        have hz226_70 : zin (1) 4 1 := by first | exact ⟨rfl, by decide⟩ | exact zin_nI (by omega) (by first | decide | omega) | exact zin_of (by omega) (by omega)
        refine j_iastk hx (ias_readShip.2.2 _ hz195_68.2) hz226_70 d_Mo_clause_226 ?_
        obtain ⟨s9_4, eg_4⟩ : ∃ z : St, z = mnO s9_3 (155 + nn s9_2 3) 1 0 9 := ⟨_, rfl⟩
        refine J.to (σ' := s9_4) (by rw [eg_4]; first | done | rfl) rfl ?_
        have hp4 : pB s9_4 := by rw [eg_4]; exact mnO_p hp3 (by omega)
        have ho4 : s9_4 114 = σ 114 := by rw [eg_4, mnO_o (by decide) (by omega), ho3]
        refine j_iinc hx [(4, .int 2), (3, .ref (G.1 (155 + (nn s9_2 3)))), (2, .int (s9_2 114 3)), (1, .int 3), (0, .ref (G.1 111))] d_Mo_clause_227 0 rfl (by decide) (by decide) rfl ?_
        refine j_goto (tgt := 210) hx d_Mo_clause_230 (by decide) ?_
        refine j_iload hx d_Mo_clause_210 0 rfl ?_
        refine j_iconst (v := 4) hx d_Mo_clause_212 (by decide) ?_
        refine j_icmp_ge (tgt := 233) hx d_Mo_clause_213 (by decide) (fun zc213 => absurd zc213 (by decide)) (fun _ => ?_)
        refine j_aload_n hx d_Mo_clause_216 rfl 1 rfl ?_
        refine j_iload hx d_Mo_clause_217 0 rfl ?_
        refine j_aload_n hx d_Mo_clause_219 rfl 4 rfl ?_
        refine j_iconst (v := 0) hx d_Mo_clause_220 (by decide) ?_
        refine j_bipush (v := 9) hx d_Mo_clause_221 (by decide) ?_
        refine j_callVi hx (c_Mo_number hG s9_4 0 9 (by first | exact hp5 | exact hp4 | exact hp3)) mo_Mo_number mv_Mo_number t_1633 (by decide) rfl (by decide) (sh_111 _ _) rfl rfl (Nat.le_of_ble_eq_true rfl) d_Mo_clause_223 ?_
        have hz226_71 : zin (2) 4 2 := by first | exact ⟨rfl, by decide⟩ | exact zin_nI (by omega) (by first | decide | omega) | exact zin_of (by omega) (by omega)
        refine j_iastk hx (ias_readShip.2.2 _ hz195_68.2) hz226_71 d_Mo_clause_226 ?_
        obtain ⟨s9_5, eg_5⟩ : ∃ z : St, z = mnO s9_4 (155 + nn s9_2 3) 2 0 9 := ⟨_, rfl⟩
        refine J.to (σ' := s9_5) (by rw [eg_5]; first | done | rfl) rfl ?_
        have hp5 : pB s9_5 := by rw [eg_5]; exact mnO_p hp4 (by omega)
        have ho5 : s9_5 114 = σ 114 := by rw [eg_5, mnO_o (by decide) (by omega), ho4]
        refine j_iinc hx [(4, .int 3), (3, .ref (G.1 (155 + (nn s9_2 3)))), (2, .int (s9_2 114 3)), (1, .int 3), (0, .ref (G.1 111))] d_Mo_clause_227 0 rfl (by decide) (by decide) rfl ?_
        refine j_goto (tgt := 210) hx d_Mo_clause_230 (by decide) ?_
        refine j_iload hx d_Mo_clause_210 0 rfl ?_
        refine j_iconst (v := 4) hx d_Mo_clause_212 (by decide) ?_
        refine j_icmp_ge (tgt := 233) hx d_Mo_clause_213 (by decide) (fun zc213 => absurd zc213 (by decide)) (fun _ => ?_)
        refine j_aload_n hx d_Mo_clause_216 rfl 1 rfl ?_
        refine j_iload hx d_Mo_clause_217 0 rfl ?_
        refine j_aload_n hx d_Mo_clause_219 rfl 4 rfl ?_
        refine j_iconst (v := 0) hx d_Mo_clause_220 (by decide) ?_
        refine j_bipush (v := 9) hx d_Mo_clause_221 (by decide) ?_
        refine j_callVi hx (c_Mo_number hG s9_5 0 9 (by first | exact hp5 | exact hp4 | exact hp3)) mo_Mo_number mv_Mo_number t_1633 (by decide) rfl (by decide) (sh_111 _ _) rfl rfl (Nat.le_of_ble_eq_true rfl) d_Mo_clause_223 ?_
        have hz226_72 : zin (3) 4 3 := by first | exact ⟨rfl, by decide⟩ | exact zin_nI (by omega) (by first | decide | omega) | exact zin_of (by omega) (by omega)
        refine j_iastk hx (ias_readShip.2.2 _ hz195_68.2) hz226_72 d_Mo_clause_226 ?_
        obtain ⟨s9_6, eg_6⟩ : ∃ z : St, z = mnO s9_5 (155 + nn s9_2 3) 3 0 9 := ⟨_, rfl⟩
        refine J.to (σ' := s9_6) (by rw [eg_6]; first | done | rfl) rfl ?_
        have hp6 : pB s9_6 := by rw [eg_6]; exact mnO_p hp5 (by omega)
        have ho6 : s9_6 114 = σ 114 := by rw [eg_6, mnO_o (by decide) (by omega), ho5]
        refine j_iinc hx [(4, .int 4), (3, .ref (G.1 (155 + (nn s9_2 3)))), (2, .int (s9_2 114 3)), (1, .int 3), (0, .ref (G.1 111))] d_Mo_clause_227 0 rfl (by decide) (by decide) rfl ?_
        refine j_goto (tgt := 210) hx d_Mo_clause_230 (by decide) ?_
        refine j_iload hx d_Mo_clause_210 0 rfl ?_
        refine j_iconst (v := 4) hx d_Mo_clause_212 (by decide) ?_
        refine j_icmp_ge (tgt := 233) hx d_Mo_clause_213 (by decide) (fun _ => ?_) (fun zc213 => absurd (by decide) zc213)
        refine j_goto (tgt := 276) hx d_Mo_clause_233 (by decide) ?_
        refine j_iload_n hx d_Mo_clause_276 rfl 3 rfl ?_
        refine j_iconst (v := 5) hx d_Mo_clause_277 (by decide) ?_
        refine j_icmp_ge (tgt := 302) hx d_Mo_clause_278 (by decide) (fun zc278 => absurd zc278 (by decide)) (fun _ => ?_)
        refine j_aload_n hx d_Mo_clause_281 rfl 4 rfl ?_
        refine j_get hx ck_Mo 11 (by decide) t_1429 (by decide) (sh_111 _ _) rfl d_Mo_clause_282 ?_
        refine j_iload_n hx d_Mo_clause_285 rfl 3 rfl ?_
        refine j_dup2_11 hx d_Mo_clause_286 rfl rfl ?_
        have hz287_73 : zin (3) 6 3 := by first | exact ⟨rfl, by decide⟩ | exact zin_nI (by omega) (by first | decide | omega) | exact zin_of (by omega) (by omega)
        refine j_ialdk hx ia_114 hz287_73 d_Mo_clause_287 ?_
        refine j_aload_n hx d_Mo_clause_288 rfl 4 rfl ?_
        refine j_get hx ck_Mo 5 (by decide) t_1423 (by decide) (sh_111 _ _) rfl d_Mo_clause_289 ?_
        refine j_if_ne (tgt := 299) hx d_Mo_clause_292 (by decide) (fun zc292 => ?_) (fun zc292 => ?_)
        · skip
          refine j_iconst (v := 0) hx d_Mo_clause_299 (by decide) ?_
          refine j_iadd hx d_Mo_clause_300 ?_
          have hz301_74 : zin (3) 6 3 := by first | exact ⟨rfl, by decide⟩ | exact zin_nI (by omega) (by first | decide | omega) | exact zin_of (by omega) (by omega)
          refine j_iastk hx ia_114 hz301_74 d_Mo_clause_301 ?_
          obtain ⟨s9_7, eg_7⟩ : ∃ z : St, z = mcC s9_6 3 := ⟨_, rfl⟩
          refine J.to (σ' := s9_7) (by rw [eg_7]; unfold mcC; first | (rw [if_pos zc292]; done) | (rw [if_neg zc292]; done)) rfl ?_
          have hpz : pB s9_7 := by rw [eg_7]; unfold mcC pB; rw [up_o (by decide)]; exact hp6
          refine j_aload_n hx d_Mo_clause_302 rfl 4 rfl ?_
          refine j_bipush (v := 59) hx d_Mo_clause_303 (by decide) ?_
          refine j_callVv hx (c_Mo_sign hG s9_7 59 (by exact hpz)) mo_Mo_sign mv_Mo_sign t_1641 (by decide) rfl (by decide) (sh_111 _ _) rfl rfl (Nat.le_of_ble_eq_true rfl) d_Mo_clause_305 ?_
          exact j_vret hx hq d_Mo_clause_308 (by first | (first | (unfold mclS; rw [if_neg hkm1, if_neg hk0, if_neg hk1, if_neg hk2, if_pos hk3]; unfold mcE; rw [← eg_1, if_pos zc62, eg_7, eg_6, eg_5, eg_4, eg_3, eg_2]; done) | (unfold mclS; rw [if_neg hkm1, if_neg hk0, if_neg hk1, if_neg hk2, if_pos hk3]; unfold mcE; rw [← eg_1, if_pos zc62, eg_7, eg_6, eg_5, eg_4, eg_3, eg_2]; rfl)) | fail)
        · skip
          refine j_iconst (v := 1) hx d_Mo_clause_295 (by decide) ?_
          refine j_goto (tgt := 300) hx d_Mo_clause_296 (by decide) ?_
          refine j_iadd hx d_Mo_clause_300 ?_
          have hz301_75 : zin (3) 6 3 := by first | exact ⟨rfl, by decide⟩ | exact zin_nI (by omega) (by first | decide | omega) | exact zin_of (by omega) (by omega)
          refine j_iastk hx ia_114 hz301_75 d_Mo_clause_301 ?_
          obtain ⟨s9_7, eg_7⟩ : ∃ z : St, z = mcC s9_6 3 := ⟨_, rfl⟩
          refine J.to (σ' := s9_7) (by rw [eg_7]; unfold mcC; first | (rw [if_pos zc292]; done) | (rw [if_neg zc292]; done)) rfl ?_
          have hpz : pB s9_7 := by rw [eg_7]; unfold mcC pB; rw [up_o (by decide)]; exact hp6
          refine j_aload_n hx d_Mo_clause_302 rfl 4 rfl ?_
          refine j_bipush (v := 59) hx d_Mo_clause_303 (by decide) ?_
          refine j_callVv hx (c_Mo_sign hG s9_7 59 (by exact hpz)) mo_Mo_sign mv_Mo_sign t_1641 (by decide) rfl (by decide) (sh_111 _ _) rfl rfl (Nat.le_of_ble_eq_true rfl) d_Mo_clause_305 ?_
          exact j_vret hx hq d_Mo_clause_308 (by first | (first | (unfold mclS; rw [if_neg hkm1, if_neg hk0, if_neg hk1, if_neg hk2, if_pos hk3]; unfold mcE; rw [← eg_1, if_pos zc62, eg_7, eg_6, eg_5, eg_4, eg_3, eg_2]; done) | (unfold mclS; rw [if_neg hkm1, if_neg hk0, if_neg hk1, if_neg hk2, if_pos hk3]; unfold mcE; rw [← eg_1, if_pos zc62, eg_7, eg_6, eg_5, eg_4, eg_3, eg_2]; rfl)) | fail)
      · skip
        exact j_vret hx hq d_Mo_clause_65 (by first | (unfold mclS; rw [if_neg hkm1, if_neg hk0, if_neg hk1, if_neg hk2, if_pos hk3]; unfold mcE; rw [← eg_1]; exact (if_neg zc62).symm) | fail)
    · skip
      refine j_iload_n hx d_Mo_clause_31 rfl 0 rfl ?_
      refine j_iconst (v := 5) hx d_Mo_clause_32 (by decide) ?_
      refine j_icmp_ge (tgt := 58) hx d_Mo_clause_33 (by decide) (fun zc33 => absurd zc33 (by decide)) (fun _ => ?_)
      refine j_aload_n hx d_Mo_clause_36 rfl 1 rfl ?_
      refine j_get hx ck_Mo 11 (by decide) t_1429 (by decide) (sh_111 _ _) rfl d_Mo_clause_37 ?_
      refine j_iload_n hx d_Mo_clause_40 rfl 0 rfl ?_
      have hz41_76 : zin (3) 6 3 := by first | exact ⟨rfl, by decide⟩ | exact zin_nI (by omega) (by first | decide | omega) | exact zin_of (by omega) (by omega)
      refine j_ialdk hx ia_114 hz41_76 d_Mo_clause_41 ?_
      refine j_iload_n hx d_Mo_clause_42 rfl 0 rfl ?_
      refine j_callSi hx (c_Mo_mostOf hG (mbz σ) 3) mo_Mo_mostOf t_1627 t_1626 (by decide) rfl rfl (Nat.le_of_ble_eq_true rfl) d_Mo_clause_43 ?_
      refine j_icmp_ne (tgt := 58) hx d_Mo_clause_46 (by decide) (fun zc46 => ?_) (fun zc46 => ?_)
      · skip
        obtain ⟨s9_1, eg_1⟩ : ∃ z : St, z = mcA σ 3 6 := ⟨_, rfl⟩
        refine J.to (σ' := s9_1) (by rw [eg_1]; rw [mbz_k (by decide)] at zc28; unfold mcA; first | (rw [if_pos (Or.inl zc28)]; done) | (rw [mbz_o (by decide)] at zc46; first | (rw [if_pos (show σ 111 7 = 60 ∨ σ 114 3 = 6 from Or.inr zc46)]; done) | (rw [if_neg (show ¬ (σ 111 7 = 60 ∨ σ 114 3 = 6) from fun z => z.elim zc28 zc46)]; done))) rfl ?_
        have hp1 : pB s9_1 := by rw [eg_1]; exact mcA_p hp
        have ho1 : s9_1 114 = σ 114 := by rw [eg_1]; exact mcA_o (by decide)
        refine j_aload_n hx d_Mo_clause_58 rfl 1 rfl ?_
        refine j_get hx ck_Mo 5 (by decide) t_1423 (by decide) (sh_111 _ _) rfl d_Mo_clause_59 ?_
        refine j_if_eq (tgt := 66) hx d_Mo_clause_62 (by decide) (fun zc62 => ?_) (fun zc62 => ?_)
        · skip
          refine j_aload_n hx d_Mo_clause_66 rfl 1 rfl ?_
          refine j_callVv hx (c_Mo_skipWord hG s9_1 (by exact hp1)) mo_Mo_skipWord mv_Mo_skipWord t_1629 (by decide) rfl (by decide) (sh_111 _ _) rfl rfl (Nat.le_of_ble_eq_true rfl) d_Mo_clause_67 ?_
          refine j_aload_n hx d_Mo_clause_70 rfl 1 rfl ?_
          refine j_dup hx d_Mo_clause_71 rfl ?_
          refine j_get hx ck_Mo 7 (by decide) t_1425 (by decide) (sh_111 _ _) rfl d_Mo_clause_72 ?_
          refine j_iconst (v := 1) hx d_Mo_clause_75 (by decide) ?_
          refine j_iadd hx d_Mo_clause_76 ?_
          refine j_put hx ck_Mo 7 (by decide) t_1425 (by decide) (sh_111 _ _) rfl (Nat.le_of_ble_eq_true rfl) (sh_111 _ _) d_Mo_clause_77 ?_
          obtain ⟨s9_2, eg_2⟩ : ∃ z : St, z = mc3 s9_1 := ⟨_, rfl⟩
          refine J.to (σ' := s9_2) (by rw [eg_2]; first | done | rfl) rfl ?_
          have hp2 : pB s9_2 := by rw [eg_2]; exact mc3_p hp1
          have ho2 : s9_2 114 = σ 114 := by rw [eg_2, mc3_o (by decide), ho1]
          have hne := (mcA_f (t := σ) (j := 3) (most := 6) (by rw [← eg_1]; first | exact zc62 | exact Decidable.not_not.mp zc62)).1
          have hzn : zin (s9_2 114 3) 6 (nn s9_2 3) := by unfold nn; rw [ho2]; exact nn_lt (m := 6) hT.2.2.2.1.1 hT.2.2.2.1.2 rfl hne
          refine j_aload_n hx d_Mo_clause_80 rfl 1 rfl ?_
          refine j_get hx ck_Mo 11 (by decide) t_1429 (by decide) (sh_111 _ _) rfl d_Mo_clause_81 ?_
          refine j_iload_n hx d_Mo_clause_84 rfl 0 rfl ?_
          have hz85_77 : zin (3) 6 3 := by first | exact ⟨rfl, by decide⟩ | exact zin_nI (by omega) (by first | decide | omega) | exact zin_of (by omega) (by omega)
          refine j_ialdk hx ia_114 hz85_77 d_Mo_clause_85 ?_
          refine j_istore_n hx [(2, .int (s9_2 114 3)), (1, .int 3), (0, .ref (G.1 111))] d_Mo_clause_86 rfl (by decide) rfl ?_
          refine j_iload_n hx d_Mo_clause_87 rfl 1 rfl ?_
          refine j_tableIn (x := 3) (tgt := 190) (off := 102) hx d_Mo_clause_88 (by decide) (by decide) (by decide) (by decide) ?_
          refine j_aload_n hx d_Mo_clause_190 rfl 2 rfl ?_
          refine j_get hx ck_Mo 21 (by decide) t_1439 (by decide) (sh_111 _ _) rfl d_Mo_clause_191 ?_
          refine j_iload_n hx d_Mo_clause_194 rfl 0 rfl ?_
          have hz195_78 : zin (s9_2 114 3) 6 ((nn s9_2 3)) := by exact hzn
          refine j_aaldk hx ias_readShip.1.1 (ias_readShip.2.1 _ _) hz195_78 d_Mo_clause_195 ?_
          refine j_astore_n hx [(3, .ref (G.1 (155 + (nn s9_2 3)))), (2, .int (s9_2 114 3)), (1, .int 3), (0, .ref (G.1 111))] d_Mo_clause_196 rfl (by decide) rfl ?_
          refine j_aload_n hx d_Mo_clause_197 rfl 0 rfl ?_
          refine j_iconst (v := 0) hx d_Mo_clause_198 (by decide) ?_
          refine j_aload_n hx d_Mo_clause_199 rfl 3 rfl ?_
          refine j_iconst (v := 0) hx d_Mo_clause_200 (by decide) ?_
          refine j_bipush (v := 40) hx d_Mo_clause_201 (by decide) ?_
          refine j_callVi hx (c_Mo_number hG s9_2 0 40 (by exact hp2)) mo_Mo_number mv_Mo_number t_1633 (by decide) rfl (by decide) (sh_111 _ _) rfl rfl (Nat.le_of_ble_eq_true rfl) d_Mo_clause_203 ?_
          have hz206_79 : zin (0) 4 0 := by first | exact ⟨rfl, by decide⟩ | exact zin_nI (by omega) (by first | decide | omega) | exact zin_of (by omega) (by omega)
          refine j_iastk hx (ias_readShip.2.2 _ hz195_78.2) hz206_79 d_Mo_clause_206 ?_
          obtain ⟨s9_3, eg_3⟩ : ∃ z : St, z = mnO s9_2 (155 + nn s9_2 3) 0 0 40 := ⟨_, rfl⟩
          refine J.to (σ' := s9_3) (by rw [eg_3]; first | done | rfl) rfl ?_
          have hp3 : pB s9_3 := by rw [eg_3]; exact mnO_p hp2 (by omega)
          have ho3 : s9_3 114 = σ 114 := by rw [eg_3, mnO_o (by decide) (by omega), ho2]
          refine j_iconst (v := 1) hx d_Mo_clause_207 (by decide) ?_
          refine j_istore hx [(4, .int 1), (3, .ref (G.1 (155 + (nn s9_2 3)))), (2, .int (s9_2 114 3)), (1, .int 3), (0, .ref (G.1 111))] d_Mo_clause_208 (by decide) rfl ?_
          refine j_iload hx d_Mo_clause_210 0 rfl ?_
          refine j_iconst (v := 4) hx d_Mo_clause_212 (by decide) ?_
          refine j_icmp_ge (tgt := 233) hx d_Mo_clause_213 (by decide) (fun zc213 => absurd zc213 (by decide)) (fun _ => ?_)
          refine j_aload_n hx d_Mo_clause_216 rfl 1 rfl ?_
          refine j_iload hx d_Mo_clause_217 0 rfl ?_
          refine j_aload_n hx d_Mo_clause_219 rfl 4 rfl ?_
          refine j_iconst (v := 0) hx d_Mo_clause_220 (by decide) ?_
          refine j_bipush (v := 9) hx d_Mo_clause_221 (by decide) ?_
          refine j_callVi hx (c_Mo_number hG s9_3 0 9 (by first | exact hp5 | exact hp4 | exact hp3)) mo_Mo_number mv_Mo_number t_1633 (by decide) rfl (by decide) (sh_111 _ _) rfl rfl (Nat.le_of_ble_eq_true rfl) d_Mo_clause_223 ?_
          have hz226_80 : zin (1) 4 1 := by first | exact ⟨rfl, by decide⟩ | exact zin_nI (by omega) (by first | decide | omega) | exact zin_of (by omega) (by omega)
          refine j_iastk hx (ias_readShip.2.2 _ hz195_78.2) hz226_80 d_Mo_clause_226 ?_
          obtain ⟨s9_4, eg_4⟩ : ∃ z : St, z = mnO s9_3 (155 + nn s9_2 3) 1 0 9 := ⟨_, rfl⟩
          refine J.to (σ' := s9_4) (by rw [eg_4]; first | done | rfl) rfl ?_
          have hp4 : pB s9_4 := by rw [eg_4]; exact mnO_p hp3 (by omega)
          have ho4 : s9_4 114 = σ 114 := by rw [eg_4, mnO_o (by decide) (by omega), ho3]
          refine j_iinc hx [(4, .int 2), (3, .ref (G.1 (155 + (nn s9_2 3)))), (2, .int (s9_2 114 3)), (1, .int 3), (0, .ref (G.1 111))] d_Mo_clause_227 0 rfl (by decide) (by decide) rfl ?_
          refine j_goto (tgt := 210) hx d_Mo_clause_230 (by decide) ?_
          refine j_iload hx d_Mo_clause_210 0 rfl ?_
          refine j_iconst (v := 4) hx d_Mo_clause_212 (by decide) ?_
          refine j_icmp_ge (tgt := 233) hx d_Mo_clause_213 (by decide) (fun zc213 => absurd zc213 (by decide)) (fun _ => ?_)
          refine j_aload_n hx d_Mo_clause_216 rfl 1 rfl ?_
          refine j_iload hx d_Mo_clause_217 0 rfl ?_
          refine j_aload_n hx d_Mo_clause_219 rfl 4 rfl ?_
          refine j_iconst (v := 0) hx d_Mo_clause_220 (by decide) ?_
          refine j_bipush (v := 9) hx d_Mo_clause_221 (by decide) ?_
          refine j_callVi hx (c_Mo_number hG s9_4 0 9 (by first | exact hp5 | exact hp4 | exact hp3)) mo_Mo_number mv_Mo_number t_1633 (by decide) rfl (by decide) (sh_111 _ _) rfl rfl (Nat.le_of_ble_eq_true rfl) d_Mo_clause_223 ?_
          have hz226_81 : zin (2) 4 2 := by first | exact ⟨rfl, by decide⟩ | exact zin_nI (by omega) (by first | decide | omega) | exact zin_of (by omega) (by omega)
          refine j_iastk hx (ias_readShip.2.2 _ hz195_78.2) hz226_81 d_Mo_clause_226 ?_
          obtain ⟨s9_5, eg_5⟩ : ∃ z : St, z = mnO s9_4 (155 + nn s9_2 3) 2 0 9 := ⟨_, rfl⟩
          refine J.to (σ' := s9_5) (by rw [eg_5]; first | done | rfl) rfl ?_
          have hp5 : pB s9_5 := by rw [eg_5]; exact mnO_p hp4 (by omega)
          have ho5 : s9_5 114 = σ 114 := by rw [eg_5, mnO_o (by decide) (by omega), ho4]
          refine j_iinc hx [(4, .int 3), (3, .ref (G.1 (155 + (nn s9_2 3)))), (2, .int (s9_2 114 3)), (1, .int 3), (0, .ref (G.1 111))] d_Mo_clause_227 0 rfl (by decide) (by decide) rfl ?_
          refine j_goto (tgt := 210) hx d_Mo_clause_230 (by decide) ?_
          refine j_iload hx d_Mo_clause_210 0 rfl ?_
          refine j_iconst (v := 4) hx d_Mo_clause_212 (by decide) ?_
          refine j_icmp_ge (tgt := 233) hx d_Mo_clause_213 (by decide) (fun zc213 => absurd zc213 (by decide)) (fun _ => ?_)
          refine j_aload_n hx d_Mo_clause_216 rfl 1 rfl ?_
          refine j_iload hx d_Mo_clause_217 0 rfl ?_
          refine j_aload_n hx d_Mo_clause_219 rfl 4 rfl ?_
          refine j_iconst (v := 0) hx d_Mo_clause_220 (by decide) ?_
          refine j_bipush (v := 9) hx d_Mo_clause_221 (by decide) ?_
          refine j_callVi hx (c_Mo_number hG s9_5 0 9 (by first | exact hp5 | exact hp4 | exact hp3)) mo_Mo_number mv_Mo_number t_1633 (by decide) rfl (by decide) (sh_111 _ _) rfl rfl (Nat.le_of_ble_eq_true rfl) d_Mo_clause_223 ?_
          have hz226_82 : zin (3) 4 3 := by first | exact ⟨rfl, by decide⟩ | exact zin_nI (by omega) (by first | decide | omega) | exact zin_of (by omega) (by omega)
          refine j_iastk hx (ias_readShip.2.2 _ hz195_78.2) hz226_82 d_Mo_clause_226 ?_
          obtain ⟨s9_6, eg_6⟩ : ∃ z : St, z = mnO s9_5 (155 + nn s9_2 3) 3 0 9 := ⟨_, rfl⟩
          refine J.to (σ' := s9_6) (by rw [eg_6]; first | done | rfl) rfl ?_
          have hp6 : pB s9_6 := by rw [eg_6]; exact mnO_p hp5 (by omega)
          have ho6 : s9_6 114 = σ 114 := by rw [eg_6, mnO_o (by decide) (by omega), ho5]
          refine j_iinc hx [(4, .int 4), (3, .ref (G.1 (155 + (nn s9_2 3)))), (2, .int (s9_2 114 3)), (1, .int 3), (0, .ref (G.1 111))] d_Mo_clause_227 0 rfl (by decide) (by decide) rfl ?_
          refine j_goto (tgt := 210) hx d_Mo_clause_230 (by decide) ?_
          refine j_iload hx d_Mo_clause_210 0 rfl ?_
          refine j_iconst (v := 4) hx d_Mo_clause_212 (by decide) ?_
          refine j_icmp_ge (tgt := 233) hx d_Mo_clause_213 (by decide) (fun _ => ?_) (fun zc213 => absurd (by decide) zc213)
          refine j_goto (tgt := 276) hx d_Mo_clause_233 (by decide) ?_
          refine j_iload_n hx d_Mo_clause_276 rfl 3 rfl ?_
          refine j_iconst (v := 5) hx d_Mo_clause_277 (by decide) ?_
          refine j_icmp_ge (tgt := 302) hx d_Mo_clause_278 (by decide) (fun zc278 => absurd zc278 (by decide)) (fun _ => ?_)
          refine j_aload_n hx d_Mo_clause_281 rfl 4 rfl ?_
          refine j_get hx ck_Mo 11 (by decide) t_1429 (by decide) (sh_111 _ _) rfl d_Mo_clause_282 ?_
          refine j_iload_n hx d_Mo_clause_285 rfl 3 rfl ?_
          refine j_dup2_11 hx d_Mo_clause_286 rfl rfl ?_
          have hz287_83 : zin (3) 6 3 := by first | exact ⟨rfl, by decide⟩ | exact zin_nI (by omega) (by first | decide | omega) | exact zin_of (by omega) (by omega)
          refine j_ialdk hx ia_114 hz287_83 d_Mo_clause_287 ?_
          refine j_aload_n hx d_Mo_clause_288 rfl 4 rfl ?_
          refine j_get hx ck_Mo 5 (by decide) t_1423 (by decide) (sh_111 _ _) rfl d_Mo_clause_289 ?_
          refine j_if_ne (tgt := 299) hx d_Mo_clause_292 (by decide) (fun zc292 => ?_) (fun zc292 => ?_)
          · skip
            refine j_iconst (v := 0) hx d_Mo_clause_299 (by decide) ?_
            refine j_iadd hx d_Mo_clause_300 ?_
            have hz301_84 : zin (3) 6 3 := by first | exact ⟨rfl, by decide⟩ | exact zin_nI (by omega) (by first | decide | omega) | exact zin_of (by omega) (by omega)
            refine j_iastk hx ia_114 hz301_84 d_Mo_clause_301 ?_
            obtain ⟨s9_7, eg_7⟩ : ∃ z : St, z = mcC s9_6 3 := ⟨_, rfl⟩
            refine J.to (σ' := s9_7) (by rw [eg_7]; unfold mcC; first | (rw [if_pos zc292]; done) | (rw [if_neg zc292]; done)) rfl ?_
            have hpz : pB s9_7 := by rw [eg_7]; unfold mcC pB; rw [up_o (by decide)]; exact hp6
            refine j_aload_n hx d_Mo_clause_302 rfl 4 rfl ?_
            refine j_bipush (v := 59) hx d_Mo_clause_303 (by decide) ?_
            refine j_callVv hx (c_Mo_sign hG s9_7 59 (by exact hpz)) mo_Mo_sign mv_Mo_sign t_1641 (by decide) rfl (by decide) (sh_111 _ _) rfl rfl (Nat.le_of_ble_eq_true rfl) d_Mo_clause_305 ?_
            exact j_vret hx hq d_Mo_clause_308 (by first | (first | (unfold mclS; rw [if_neg hkm1, if_neg hk0, if_neg hk1, if_neg hk2, if_pos hk3]; unfold mcE; rw [← eg_1, if_pos zc62, eg_7, eg_6, eg_5, eg_4, eg_3, eg_2]; done) | (unfold mclS; rw [if_neg hkm1, if_neg hk0, if_neg hk1, if_neg hk2, if_pos hk3]; unfold mcE; rw [← eg_1, if_pos zc62, eg_7, eg_6, eg_5, eg_4, eg_3, eg_2]; rfl)) | fail)
          · skip
            refine j_iconst (v := 1) hx d_Mo_clause_295 (by decide) ?_
            refine j_goto (tgt := 300) hx d_Mo_clause_296 (by decide) ?_
            refine j_iadd hx d_Mo_clause_300 ?_
            have hz301_85 : zin (3) 6 3 := by first | exact ⟨rfl, by decide⟩ | exact zin_nI (by omega) (by first | decide | omega) | exact zin_of (by omega) (by omega)
            refine j_iastk hx ia_114 hz301_85 d_Mo_clause_301 ?_
            obtain ⟨s9_7, eg_7⟩ : ∃ z : St, z = mcC s9_6 3 := ⟨_, rfl⟩
            refine J.to (σ' := s9_7) (by rw [eg_7]; unfold mcC; first | (rw [if_pos zc292]; done) | (rw [if_neg zc292]; done)) rfl ?_
            have hpz : pB s9_7 := by rw [eg_7]; unfold mcC pB; rw [up_o (by decide)]; exact hp6
            refine j_aload_n hx d_Mo_clause_302 rfl 4 rfl ?_
            refine j_bipush (v := 59) hx d_Mo_clause_303 (by decide) ?_
            refine j_callVv hx (c_Mo_sign hG s9_7 59 (by exact hpz)) mo_Mo_sign mv_Mo_sign t_1641 (by decide) rfl (by decide) (sh_111 _ _) rfl rfl (Nat.le_of_ble_eq_true rfl) d_Mo_clause_305 ?_
            exact j_vret hx hq d_Mo_clause_308 (by first | (first | (unfold mclS; rw [if_neg hkm1, if_neg hk0, if_neg hk1, if_neg hk2, if_pos hk3]; unfold mcE; rw [← eg_1, if_pos zc62, eg_7, eg_6, eg_5, eg_4, eg_3, eg_2]; done) | (unfold mclS; rw [if_neg hkm1, if_neg hk0, if_neg hk1, if_neg hk2, if_pos hk3]; unfold mcE; rw [← eg_1, if_pos zc62, eg_7, eg_6, eg_5, eg_4, eg_3, eg_2]; rfl)) | fail)
        · skip
          exact j_vret hx hq d_Mo_clause_65 (by first | (unfold mclS; rw [if_neg hkm1, if_neg hk0, if_neg hk1, if_neg hk2, if_pos hk3]; unfold mcE; rw [← eg_1]; exact (if_neg zc62).symm) | fail)
      · skip
        refine j_aload_n hx d_Mo_clause_49 rfl 1 rfl ?_
        refine j_iconst (v := 3) hx d_Mo_clause_50 (by decide) ?_
        refine j_aload_n hx d_Mo_clause_51 rfl 1 rfl ?_
        refine j_get hx ck_Mo 4 (by decide) t_1422 (by decide) (sh_111 _ _) rfl d_Mo_clause_52 ?_
        refine j_callVv hx (c_Mo_wrong hG (mbz σ) 3 ((mbz σ) 111 4)) mo_Mo_wrong mv_Mo_wrong t_1622 (by decide) rfl (by decide) (sh_111 _ _) rfl rfl (Nat.le_of_ble_eq_true rfl) d_Mo_clause_55 ?_
        obtain ⟨s9_1, eg_1⟩ : ∃ z : St, z = mcA σ 3 6 := ⟨_, rfl⟩
        refine J.to (σ' := s9_1) (by rw [eg_1]; rw [mbz_k (by decide)] at zc28; unfold mcA; first | (rw [if_pos (Or.inl zc28)]; done) | (rw [mbz_o (by decide)] at zc46; first | (rw [if_pos (show σ 111 7 = 60 ∨ σ 114 3 = 6 from Or.inr zc46)]; done) | (rw [if_neg (show ¬ (σ 111 7 = 60 ∨ σ 114 3 = 6) from fun z => z.elim zc28 zc46)]; done))) rfl ?_
        have hp1 : pB s9_1 := by rw [eg_1]; exact mcA_p hp
        have ho1 : s9_1 114 = σ 114 := by rw [eg_1]; exact mcA_o (by decide)
        refine j_aload_n hx d_Mo_clause_58 rfl 1 rfl ?_
        refine j_get hx ck_Mo 5 (by decide) t_1423 (by decide) (sh_111 _ _) rfl d_Mo_clause_59 ?_
        refine j_if_eq (tgt := 66) hx d_Mo_clause_62 (by decide) (fun zc62 => ?_) (fun zc62 => ?_)
        · skip
          refine j_aload_n hx d_Mo_clause_66 rfl 1 rfl ?_
          refine j_callVv hx (c_Mo_skipWord hG s9_1 (by exact hp1)) mo_Mo_skipWord mv_Mo_skipWord t_1629 (by decide) rfl (by decide) (sh_111 _ _) rfl rfl (Nat.le_of_ble_eq_true rfl) d_Mo_clause_67 ?_
          refine j_aload_n hx d_Mo_clause_70 rfl 1 rfl ?_
          refine j_dup hx d_Mo_clause_71 rfl ?_
          refine j_get hx ck_Mo 7 (by decide) t_1425 (by decide) (sh_111 _ _) rfl d_Mo_clause_72 ?_
          refine j_iconst (v := 1) hx d_Mo_clause_75 (by decide) ?_
          refine j_iadd hx d_Mo_clause_76 ?_
          refine j_put hx ck_Mo 7 (by decide) t_1425 (by decide) (sh_111 _ _) rfl (Nat.le_of_ble_eq_true rfl) (sh_111 _ _) d_Mo_clause_77 ?_
          obtain ⟨s9_2, eg_2⟩ : ∃ z : St, z = mc3 s9_1 := ⟨_, rfl⟩
          refine J.to (σ' := s9_2) (by rw [eg_2]; first | done | rfl) rfl ?_
          have hp2 : pB s9_2 := by rw [eg_2]; exact mc3_p hp1
          have ho2 : s9_2 114 = σ 114 := by rw [eg_2, mc3_o (by decide), ho1]
          have hne := (mcA_f (t := σ) (j := 3) (most := 6) (by rw [← eg_1]; first | exact zc62 | exact Decidable.not_not.mp zc62)).1
          have hzn : zin (s9_2 114 3) 6 (nn s9_2 3) := by unfold nn; rw [ho2]; exact nn_lt (m := 6) hT.2.2.2.1.1 hT.2.2.2.1.2 rfl hne
          refine j_aload_n hx d_Mo_clause_80 rfl 1 rfl ?_
          refine j_get hx ck_Mo 11 (by decide) t_1429 (by decide) (sh_111 _ _) rfl d_Mo_clause_81 ?_
          refine j_iload_n hx d_Mo_clause_84 rfl 0 rfl ?_
          have hz85_86 : zin (3) 6 3 := by first | exact ⟨rfl, by decide⟩ | exact zin_nI (by omega) (by first | decide | omega) | exact zin_of (by omega) (by omega)
          refine j_ialdk hx ia_114 hz85_86 d_Mo_clause_85 ?_
          refine j_istore_n hx [(2, .int (s9_2 114 3)), (1, .int 3), (0, .ref (G.1 111))] d_Mo_clause_86 rfl (by decide) rfl ?_
          refine j_iload_n hx d_Mo_clause_87 rfl 1 rfl ?_
          refine j_tableIn (x := 3) (tgt := 190) (off := 102) hx d_Mo_clause_88 (by decide) (by decide) (by decide) (by decide) ?_
          refine j_aload_n hx d_Mo_clause_190 rfl 2 rfl ?_
          refine j_get hx ck_Mo 21 (by decide) t_1439 (by decide) (sh_111 _ _) rfl d_Mo_clause_191 ?_
          refine j_iload_n hx d_Mo_clause_194 rfl 0 rfl ?_
          have hz195_87 : zin (s9_2 114 3) 6 ((nn s9_2 3)) := by exact hzn
          refine j_aaldk hx ias_readShip.1.1 (ias_readShip.2.1 _ _) hz195_87 d_Mo_clause_195 ?_
          refine j_astore_n hx [(3, .ref (G.1 (155 + (nn s9_2 3)))), (2, .int (s9_2 114 3)), (1, .int 3), (0, .ref (G.1 111))] d_Mo_clause_196 rfl (by decide) rfl ?_
          refine j_aload_n hx d_Mo_clause_197 rfl 0 rfl ?_
          refine j_iconst (v := 0) hx d_Mo_clause_198 (by decide) ?_
          refine j_aload_n hx d_Mo_clause_199 rfl 3 rfl ?_
          refine j_iconst (v := 0) hx d_Mo_clause_200 (by decide) ?_
          refine j_bipush (v := 40) hx d_Mo_clause_201 (by decide) ?_
          refine j_callVi hx (c_Mo_number hG s9_2 0 40 (by exact hp2)) mo_Mo_number mv_Mo_number t_1633 (by decide) rfl (by decide) (sh_111 _ _) rfl rfl (Nat.le_of_ble_eq_true rfl) d_Mo_clause_203 ?_
          have hz206_88 : zin (0) 4 0 := by first | exact ⟨rfl, by decide⟩ | exact zin_nI (by omega) (by first | decide | omega) | exact zin_of (by omega) (by omega)
          refine j_iastk hx (ias_readShip.2.2 _ hz195_87.2) hz206_88 d_Mo_clause_206 ?_
          obtain ⟨s9_3, eg_3⟩ : ∃ z : St, z = mnO s9_2 (155 + nn s9_2 3) 0 0 40 := ⟨_, rfl⟩
          refine J.to (σ' := s9_3) (by rw [eg_3]; first | done | rfl) rfl ?_
          have hp3 : pB s9_3 := by rw [eg_3]; exact mnO_p hp2 (by omega)
          have ho3 : s9_3 114 = σ 114 := by rw [eg_3, mnO_o (by decide) (by omega), ho2]
          refine j_iconst (v := 1) hx d_Mo_clause_207 (by decide) ?_
          refine j_istore hx [(4, .int 1), (3, .ref (G.1 (155 + (nn s9_2 3)))), (2, .int (s9_2 114 3)), (1, .int 3), (0, .ref (G.1 111))] d_Mo_clause_208 (by decide) rfl ?_
          refine j_iload hx d_Mo_clause_210 0 rfl ?_
          refine j_iconst (v := 4) hx d_Mo_clause_212 (by decide) ?_
          refine j_icmp_ge (tgt := 233) hx d_Mo_clause_213 (by decide) (fun zc213 => absurd zc213 (by decide)) (fun _ => ?_)
          refine j_aload_n hx d_Mo_clause_216 rfl 1 rfl ?_
          refine j_iload hx d_Mo_clause_217 0 rfl ?_
          refine j_aload_n hx d_Mo_clause_219 rfl 4 rfl ?_
          refine j_iconst (v := 0) hx d_Mo_clause_220 (by decide) ?_
          refine j_bipush (v := 9) hx d_Mo_clause_221 (by decide) ?_
          refine j_callVi hx (c_Mo_number hG s9_3 0 9 (by first | exact hp5 | exact hp4 | exact hp3)) mo_Mo_number mv_Mo_number t_1633 (by decide) rfl (by decide) (sh_111 _ _) rfl rfl (Nat.le_of_ble_eq_true rfl) d_Mo_clause_223 ?_
          have hz226_89 : zin (1) 4 1 := by first | exact ⟨rfl, by decide⟩ | exact zin_nI (by omega) (by first | decide | omega) | exact zin_of (by omega) (by omega)
          refine j_iastk hx (ias_readShip.2.2 _ hz195_87.2) hz226_89 d_Mo_clause_226 ?_
          obtain ⟨s9_4, eg_4⟩ : ∃ z : St, z = mnO s9_3 (155 + nn s9_2 3) 1 0 9 := ⟨_, rfl⟩
          refine J.to (σ' := s9_4) (by rw [eg_4]; first | done | rfl) rfl ?_
          have hp4 : pB s9_4 := by rw [eg_4]; exact mnO_p hp3 (by omega)
          have ho4 : s9_4 114 = σ 114 := by rw [eg_4, mnO_o (by decide) (by omega), ho3]
          refine j_iinc hx [(4, .int 2), (3, .ref (G.1 (155 + (nn s9_2 3)))), (2, .int (s9_2 114 3)), (1, .int 3), (0, .ref (G.1 111))] d_Mo_clause_227 0 rfl (by decide) (by decide) rfl ?_
          refine j_goto (tgt := 210) hx d_Mo_clause_230 (by decide) ?_
          refine j_iload hx d_Mo_clause_210 0 rfl ?_
          refine j_iconst (v := 4) hx d_Mo_clause_212 (by decide) ?_
          refine j_icmp_ge (tgt := 233) hx d_Mo_clause_213 (by decide) (fun zc213 => absurd zc213 (by decide)) (fun _ => ?_)
          refine j_aload_n hx d_Mo_clause_216 rfl 1 rfl ?_
          refine j_iload hx d_Mo_clause_217 0 rfl ?_
          refine j_aload_n hx d_Mo_clause_219 rfl 4 rfl ?_
          refine j_iconst (v := 0) hx d_Mo_clause_220 (by decide) ?_
          refine j_bipush (v := 9) hx d_Mo_clause_221 (by decide) ?_
          refine j_callVi hx (c_Mo_number hG s9_4 0 9 (by first | exact hp5 | exact hp4 | exact hp3)) mo_Mo_number mv_Mo_number t_1633 (by decide) rfl (by decide) (sh_111 _ _) rfl rfl (Nat.le_of_ble_eq_true rfl) d_Mo_clause_223 ?_
          have hz226_90 : zin (2) 4 2 := by first | exact ⟨rfl, by decide⟩ | exact zin_nI (by omega) (by first | decide | omega) | exact zin_of (by omega) (by omega)
          refine j_iastk hx (ias_readShip.2.2 _ hz195_87.2) hz226_90 d_Mo_clause_226 ?_
          obtain ⟨s9_5, eg_5⟩ : ∃ z : St, z = mnO s9_4 (155 + nn s9_2 3) 2 0 9 := ⟨_, rfl⟩
          refine J.to (σ' := s9_5) (by rw [eg_5]; first | done | rfl) rfl ?_
          have hp5 : pB s9_5 := by rw [eg_5]; exact mnO_p hp4 (by omega)
          have ho5 : s9_5 114 = σ 114 := by rw [eg_5, mnO_o (by decide) (by omega), ho4]
          refine j_iinc hx [(4, .int 3), (3, .ref (G.1 (155 + (nn s9_2 3)))), (2, .int (s9_2 114 3)), (1, .int 3), (0, .ref (G.1 111))] d_Mo_clause_227 0 rfl (by decide) (by decide) rfl ?_
          refine j_goto (tgt := 210) hx d_Mo_clause_230 (by decide) ?_
          refine j_iload hx d_Mo_clause_210 0 rfl ?_
          refine j_iconst (v := 4) hx d_Mo_clause_212 (by decide) ?_
          refine j_icmp_ge (tgt := 233) hx d_Mo_clause_213 (by decide) (fun zc213 => absurd zc213 (by decide)) (fun _ => ?_)
          refine j_aload_n hx d_Mo_clause_216 rfl 1 rfl ?_
          refine j_iload hx d_Mo_clause_217 0 rfl ?_
          refine j_aload_n hx d_Mo_clause_219 rfl 4 rfl ?_
          refine j_iconst (v := 0) hx d_Mo_clause_220 (by decide) ?_
          refine j_bipush (v := 9) hx d_Mo_clause_221 (by decide) ?_
          refine j_callVi hx (c_Mo_number hG s9_5 0 9 (by first | exact hp5 | exact hp4 | exact hp3)) mo_Mo_number mv_Mo_number t_1633 (by decide) rfl (by decide) (sh_111 _ _) rfl rfl (Nat.le_of_ble_eq_true rfl) d_Mo_clause_223 ?_
          have hz226_91 : zin (3) 4 3 := by first | exact ⟨rfl, by decide⟩ | exact zin_nI (by omega) (by first | decide | omega) | exact zin_of (by omega) (by omega)
          refine j_iastk hx (ias_readShip.2.2 _ hz195_87.2) hz226_91 d_Mo_clause_226 ?_
          obtain ⟨s9_6, eg_6⟩ : ∃ z : St, z = mnO s9_5 (155 + nn s9_2 3) 3 0 9 := ⟨_, rfl⟩
          refine J.to (σ' := s9_6) (by rw [eg_6]; first | done | rfl) rfl ?_
          have hp6 : pB s9_6 := by rw [eg_6]; exact mnO_p hp5 (by omega)
          have ho6 : s9_6 114 = σ 114 := by rw [eg_6, mnO_o (by decide) (by omega), ho5]
          refine j_iinc hx [(4, .int 4), (3, .ref (G.1 (155 + (nn s9_2 3)))), (2, .int (s9_2 114 3)), (1, .int 3), (0, .ref (G.1 111))] d_Mo_clause_227 0 rfl (by decide) (by decide) rfl ?_
          refine j_goto (tgt := 210) hx d_Mo_clause_230 (by decide) ?_
          refine j_iload hx d_Mo_clause_210 0 rfl ?_
          refine j_iconst (v := 4) hx d_Mo_clause_212 (by decide) ?_
          refine j_icmp_ge (tgt := 233) hx d_Mo_clause_213 (by decide) (fun _ => ?_) (fun zc213 => absurd (by decide) zc213)
          refine j_goto (tgt := 276) hx d_Mo_clause_233 (by decide) ?_
          refine j_iload_n hx d_Mo_clause_276 rfl 3 rfl ?_
          refine j_iconst (v := 5) hx d_Mo_clause_277 (by decide) ?_
          refine j_icmp_ge (tgt := 302) hx d_Mo_clause_278 (by decide) (fun zc278 => absurd zc278 (by decide)) (fun _ => ?_)
          refine j_aload_n hx d_Mo_clause_281 rfl 4 rfl ?_
          refine j_get hx ck_Mo 11 (by decide) t_1429 (by decide) (sh_111 _ _) rfl d_Mo_clause_282 ?_
          refine j_iload_n hx d_Mo_clause_285 rfl 3 rfl ?_
          refine j_dup2_11 hx d_Mo_clause_286 rfl rfl ?_
          have hz287_92 : zin (3) 6 3 := by first | exact ⟨rfl, by decide⟩ | exact zin_nI (by omega) (by first | decide | omega) | exact zin_of (by omega) (by omega)
          refine j_ialdk hx ia_114 hz287_92 d_Mo_clause_287 ?_
          refine j_aload_n hx d_Mo_clause_288 rfl 4 rfl ?_
          refine j_get hx ck_Mo 5 (by decide) t_1423 (by decide) (sh_111 _ _) rfl d_Mo_clause_289 ?_
          refine j_if_ne (tgt := 299) hx d_Mo_clause_292 (by decide) (fun zc292 => ?_) (fun zc292 => ?_)
          · skip
            refine j_iconst (v := 0) hx d_Mo_clause_299 (by decide) ?_
            refine j_iadd hx d_Mo_clause_300 ?_
            have hz301_93 : zin (3) 6 3 := by first | exact ⟨rfl, by decide⟩ | exact zin_nI (by omega) (by first | decide | omega) | exact zin_of (by omega) (by omega)
            refine j_iastk hx ia_114 hz301_93 d_Mo_clause_301 ?_
            obtain ⟨s9_7, eg_7⟩ : ∃ z : St, z = mcC s9_6 3 := ⟨_, rfl⟩
            refine J.to (σ' := s9_7) (by rw [eg_7]; unfold mcC; first | (rw [if_pos zc292]; done) | (rw [if_neg zc292]; done)) rfl ?_
            have hpz : pB s9_7 := by rw [eg_7]; unfold mcC pB; rw [up_o (by decide)]; exact hp6
            refine j_aload_n hx d_Mo_clause_302 rfl 4 rfl ?_
            refine j_bipush (v := 59) hx d_Mo_clause_303 (by decide) ?_
            refine j_callVv hx (c_Mo_sign hG s9_7 59 (by exact hpz)) mo_Mo_sign mv_Mo_sign t_1641 (by decide) rfl (by decide) (sh_111 _ _) rfl rfl (Nat.le_of_ble_eq_true rfl) d_Mo_clause_305 ?_
            exact j_vret hx hq d_Mo_clause_308 (by first | (first | (unfold mclS; rw [if_neg hkm1, if_neg hk0, if_neg hk1, if_neg hk2, if_pos hk3]; unfold mcE; rw [← eg_1, if_pos zc62, eg_7, eg_6, eg_5, eg_4, eg_3, eg_2]; done) | (unfold mclS; rw [if_neg hkm1, if_neg hk0, if_neg hk1, if_neg hk2, if_pos hk3]; unfold mcE; rw [← eg_1, if_pos zc62, eg_7, eg_6, eg_5, eg_4, eg_3, eg_2]; rfl)) | fail)
          · skip
            refine j_iconst (v := 1) hx d_Mo_clause_295 (by decide) ?_
            refine j_goto (tgt := 300) hx d_Mo_clause_296 (by decide) ?_
            refine j_iadd hx d_Mo_clause_300 ?_
            have hz301_94 : zin (3) 6 3 := by first | exact ⟨rfl, by decide⟩ | exact zin_nI (by omega) (by first | decide | omega) | exact zin_of (by omega) (by omega)
            refine j_iastk hx ia_114 hz301_94 d_Mo_clause_301 ?_
            obtain ⟨s9_7, eg_7⟩ : ∃ z : St, z = mcC s9_6 3 := ⟨_, rfl⟩
            refine J.to (σ' := s9_7) (by rw [eg_7]; unfold mcC; first | (rw [if_pos zc292]; done) | (rw [if_neg zc292]; done)) rfl ?_
            have hpz : pB s9_7 := by rw [eg_7]; unfold mcC pB; rw [up_o (by decide)]; exact hp6
            refine j_aload_n hx d_Mo_clause_302 rfl 4 rfl ?_
            refine j_bipush (v := 59) hx d_Mo_clause_303 (by decide) ?_
            refine j_callVv hx (c_Mo_sign hG s9_7 59 (by exact hpz)) mo_Mo_sign mv_Mo_sign t_1641 (by decide) rfl (by decide) (sh_111 _ _) rfl rfl (Nat.le_of_ble_eq_true rfl) d_Mo_clause_305 ?_
            exact j_vret hx hq d_Mo_clause_308 (by first | (first | (unfold mclS; rw [if_neg hkm1, if_neg hk0, if_neg hk1, if_neg hk2, if_pos hk3]; unfold mcE; rw [← eg_1, if_pos zc62, eg_7, eg_6, eg_5, eg_4, eg_3, eg_2]; done) | (unfold mclS; rw [if_neg hkm1, if_neg hk0, if_neg hk1, if_neg hk2, if_pos hk3]; unfold mcE; rw [← eg_1, if_pos zc62, eg_7, eg_6, eg_5, eg_4, eg_3, eg_2]; rfl)) | fail)
        · skip
          exact j_vret hx hq d_Mo_clause_65 (by first | (unfold mclS; rw [if_neg hkm1, if_neg hk0, if_neg hk1, if_neg hk2, if_pos hk3]; unfold mcE; rw [← eg_1]; exact (if_neg zc62).symm) | fail)
  by_cases hk4 : mkV σ = 4
  · skip
    refine J.to (ls' := [(1, .int 4), (0, .ref (G.1 111))]) rfl (by rw [hk4]) ?_
    refine j_iload_n hx d_Mo_clause_5 rfl 0 rfl ?_
    refine j_iconst (v := (-1)) hx d_Mo_clause_6 (by decide) ?_
    refine j_icmp_ne (tgt := 22) hx d_Mo_clause_7 (by decide) (fun _ => ?_) (fun zc7 => absurd zc7 (by decide))
    refine j_aload_n hx d_Mo_clause_22 rfl 1 rfl ?_
    refine j_get hx ck_Mo 7 (by decide) t_1425 (by decide) (sh_111 _ _) rfl d_Mo_clause_23 ?_
    refine j_bipush (v := 60) hx d_Mo_clause_26 (by decide) ?_
    refine j_icmp_eq (tgt := 49) hx d_Mo_clause_28 (by decide) (fun zc28 => ?_) (fun zc28 => ?_)
    · skip
      refine j_aload_n hx d_Mo_clause_49 rfl 1 rfl ?_
      refine j_iconst (v := 3) hx d_Mo_clause_50 (by decide) ?_
      refine j_aload_n hx d_Mo_clause_51 rfl 1 rfl ?_
      refine j_get hx ck_Mo 4 (by decide) t_1422 (by decide) (sh_111 _ _) rfl d_Mo_clause_52 ?_
      refine j_callVv hx (c_Mo_wrong hG (mbz σ) 3 ((mbz σ) 111 4)) mo_Mo_wrong mv_Mo_wrong t_1622 (by decide) rfl (by decide) (sh_111 _ _) rfl rfl (Nat.le_of_ble_eq_true rfl) d_Mo_clause_55 ?_
      obtain ⟨s9_1, eg_1⟩ : ∃ z : St, z = mcA σ 4 6 := ⟨_, rfl⟩
      refine J.to (σ' := s9_1) (by rw [eg_1]; rw [mbz_k (by decide)] at zc28; unfold mcA; first | (rw [if_pos (Or.inl zc28)]; done) | (rw [mbz_o (by decide)] at zc46; first | (rw [if_pos (show σ 111 7 = 60 ∨ σ 114 4 = 6 from Or.inr zc46)]; done) | (rw [if_neg (show ¬ (σ 111 7 = 60 ∨ σ 114 4 = 6) from fun z => z.elim zc28 zc46)]; done))) rfl ?_
      have hp1 : pB s9_1 := by rw [eg_1]; exact mcA_p hp
      have ho1 : s9_1 114 = σ 114 := by rw [eg_1]; exact mcA_o (by decide)
      refine j_aload_n hx d_Mo_clause_58 rfl 1 rfl ?_
      refine j_get hx ck_Mo 5 (by decide) t_1423 (by decide) (sh_111 _ _) rfl d_Mo_clause_59 ?_
      refine j_if_eq (tgt := 66) hx d_Mo_clause_62 (by decide) (fun zc62 => ?_) (fun zc62 => ?_)
      · skip
        refine j_aload_n hx d_Mo_clause_66 rfl 1 rfl ?_
        refine j_callVv hx (c_Mo_skipWord hG s9_1 (by exact hp1)) mo_Mo_skipWord mv_Mo_skipWord t_1629 (by decide) rfl (by decide) (sh_111 _ _) rfl rfl (Nat.le_of_ble_eq_true rfl) d_Mo_clause_67 ?_
        refine j_aload_n hx d_Mo_clause_70 rfl 1 rfl ?_
        refine j_dup hx d_Mo_clause_71 rfl ?_
        refine j_get hx ck_Mo 7 (by decide) t_1425 (by decide) (sh_111 _ _) rfl d_Mo_clause_72 ?_
        refine j_iconst (v := 1) hx d_Mo_clause_75 (by decide) ?_
        refine j_iadd hx d_Mo_clause_76 ?_
        refine j_put hx ck_Mo 7 (by decide) t_1425 (by decide) (sh_111 _ _) rfl (Nat.le_of_ble_eq_true rfl) (sh_111 _ _) d_Mo_clause_77 ?_
        obtain ⟨s9_2, eg_2⟩ : ∃ z : St, z = mc3 s9_1 := ⟨_, rfl⟩
        refine J.to (σ' := s9_2) (by rw [eg_2]; first | done | rfl) rfl ?_
        have hp2 : pB s9_2 := by rw [eg_2]; exact mc3_p hp1
        have ho2 : s9_2 114 = σ 114 := by rw [eg_2, mc3_o (by decide), ho1]
        have hne := (mcA_f (t := σ) (j := 4) (most := 6) (by rw [← eg_1]; first | exact zc62 | exact Decidable.not_not.mp zc62)).1
        have hzn : zin (s9_2 114 4) 6 (nn s9_2 4) := by unfold nn; rw [ho2]; exact nn_lt (m := 6) hT.2.2.2.2.1 hT.2.2.2.2.2 rfl hne
        refine j_aload_n hx d_Mo_clause_80 rfl 1 rfl ?_
        refine j_get hx ck_Mo 11 (by decide) t_1429 (by decide) (sh_111 _ _) rfl d_Mo_clause_81 ?_
        refine j_iload_n hx d_Mo_clause_84 rfl 0 rfl ?_
        have hz85_95 : zin (4) 6 4 := by first | exact ⟨rfl, by decide⟩ | exact zin_nI (by omega) (by first | decide | omega) | exact zin_of (by omega) (by omega)
        refine j_ialdk hx ia_114 hz85_95 d_Mo_clause_85 ?_
        refine j_istore_n hx [(2, .int (s9_2 114 4)), (1, .int 4), (0, .ref (G.1 111))] d_Mo_clause_86 rfl (by decide) rfl ?_
        refine j_iload_n hx d_Mo_clause_87 rfl 1 rfl ?_
        refine j_tableIn (x := 4) (tgt := 236) (off := 148) hx d_Mo_clause_88 (by decide) (by decide) (by decide) (by decide) ?_
        refine j_aload_n hx d_Mo_clause_236 rfl 2 rfl ?_
        refine j_get hx ck_Mo 15 (by decide) t_1433 (by decide) (sh_111 _ _) rfl d_Mo_clause_237 ?_
        refine j_iload_n hx d_Mo_clause_240 rfl 0 rfl ?_
        refine j_aload_n hx d_Mo_clause_241 rfl 2 rfl ?_
        refine j_iconst (v := 1) hx d_Mo_clause_242 (by decide) ?_
        refine j_bipush (v := 9) hx d_Mo_clause_243 (by decide) ?_
        refine j_callVi hx (c_Mo_number hG s9_2 1 9 (by exact hp2)) mo_Mo_number mv_Mo_number t_1633 (by decide) rfl (by decide) (sh_111 _ _) rfl rfl (Nat.le_of_ble_eq_true rfl) d_Mo_clause_245 ?_
        have hz248_96 : zin (s9_2 114 4) 6 ((nn s9_2 4)) := by exact hzn
        refine j_iastk hx ia_118 hz248_96 d_Mo_clause_248 ?_
        obtain ⟨s9_3, eg_3⟩ : ∃ z : St, z = mcB4 s9_2 := ⟨_, rfl⟩
        refine J.to (σ' := s9_3) (by rw [eg_3]; first | done | rfl) rfl ?_
        have hp3 : pB s9_3 := by rw [eg_3]; exact mnO_p hp2 (by decide)
        have ho3 : s9_3 114 = σ 114 := by rw [eg_3]; unfold mcB4; rw [mnO_o (by decide) (by decide), ho2]
        refine j_goto (tgt := 276) hx d_Mo_clause_249 (by decide) ?_
        refine j_iload_n hx d_Mo_clause_276 rfl 1 rfl ?_
        refine j_iconst (v := 5) hx d_Mo_clause_277 (by decide) ?_
        refine j_icmp_ge (tgt := 302) hx d_Mo_clause_278 (by decide) (fun zc278 => absurd zc278 (by decide)) (fun _ => ?_)
        refine j_aload_n hx d_Mo_clause_281 rfl 2 rfl ?_
        refine j_get hx ck_Mo 11 (by decide) t_1429 (by decide) (sh_111 _ _) rfl d_Mo_clause_282 ?_
        refine j_iload_n hx d_Mo_clause_285 rfl 1 rfl ?_
        refine j_dup2_11 hx d_Mo_clause_286 rfl rfl ?_
        have hz287_97 : zin (4) 6 4 := by first | exact ⟨rfl, by decide⟩ | exact zin_nI (by omega) (by first | decide | omega) | exact zin_of (by omega) (by omega)
        refine j_ialdk hx ia_114 hz287_97 d_Mo_clause_287 ?_
        refine j_aload_n hx d_Mo_clause_288 rfl 2 rfl ?_
        refine j_get hx ck_Mo 5 (by decide) t_1423 (by decide) (sh_111 _ _) rfl d_Mo_clause_289 ?_
        refine j_if_ne (tgt := 299) hx d_Mo_clause_292 (by decide) (fun zc292 => ?_) (fun zc292 => ?_)
        · skip
          refine j_iconst (v := 0) hx d_Mo_clause_299 (by decide) ?_
          refine j_iadd hx d_Mo_clause_300 ?_
          have hz301_98 : zin (4) 6 4 := by first | exact ⟨rfl, by decide⟩ | exact zin_nI (by omega) (by first | decide | omega) | exact zin_of (by omega) (by omega)
          refine j_iastk hx ia_114 hz301_98 d_Mo_clause_301 ?_
          obtain ⟨s9_4, eg_4⟩ : ∃ z : St, z = mcC s9_3 4 := ⟨_, rfl⟩
          refine J.to (σ' := s9_4) (by rw [eg_4]; unfold mcC; first | (rw [if_pos zc292]; done) | (rw [if_neg zc292]; done)) rfl ?_
          have hpz : pB s9_4 := by rw [eg_4]; unfold mcC pB; rw [up_o (by decide)]; exact hp3
          refine j_aload_n hx d_Mo_clause_302 rfl 2 rfl ?_
          refine j_bipush (v := 59) hx d_Mo_clause_303 (by decide) ?_
          refine j_callVv hx (c_Mo_sign hG s9_4 59 (by exact hpz)) mo_Mo_sign mv_Mo_sign t_1641 (by decide) rfl (by decide) (sh_111 _ _) rfl rfl (Nat.le_of_ble_eq_true rfl) d_Mo_clause_305 ?_
          exact j_vret hx hq d_Mo_clause_308 (by first | (first | (unfold mclS; rw [if_neg hkm1, if_neg hk0, if_neg hk1, if_neg hk2, if_neg hk3, if_pos hk4]; unfold mcE; rw [← eg_1, if_pos zc62, eg_4, eg_3, eg_2]; done) | (unfold mclS; rw [if_neg hkm1, if_neg hk0, if_neg hk1, if_neg hk2, if_neg hk3, if_pos hk4]; unfold mcE; rw [← eg_1, if_pos zc62, eg_4, eg_3, eg_2]; rfl)) | fail)
        · skip
          refine j_iconst (v := 1) hx d_Mo_clause_295 (by decide) ?_
          refine j_goto (tgt := 300) hx d_Mo_clause_296 (by decide) ?_
          refine j_iadd hx d_Mo_clause_300 ?_
          have hz301_99 : zin (4) 6 4 := by first | exact ⟨rfl, by decide⟩ | exact zin_nI (by omega) (by first | decide | omega) | exact zin_of (by omega) (by omega)
          refine j_iastk hx ia_114 hz301_99 d_Mo_clause_301 ?_
          obtain ⟨s9_4, eg_4⟩ : ∃ z : St, z = mcC s9_3 4 := ⟨_, rfl⟩
          refine J.to (σ' := s9_4) (by rw [eg_4]; unfold mcC; first | (rw [if_pos zc292]; done) | (rw [if_neg zc292]; done)) rfl ?_
          have hpz : pB s9_4 := by rw [eg_4]; unfold mcC pB; rw [up_o (by decide)]; exact hp3
          refine j_aload_n hx d_Mo_clause_302 rfl 2 rfl ?_
          refine j_bipush (v := 59) hx d_Mo_clause_303 (by decide) ?_
          refine j_callVv hx (c_Mo_sign hG s9_4 59 (by exact hpz)) mo_Mo_sign mv_Mo_sign t_1641 (by decide) rfl (by decide) (sh_111 _ _) rfl rfl (Nat.le_of_ble_eq_true rfl) d_Mo_clause_305 ?_
          exact j_vret hx hq d_Mo_clause_308 (by first | (first | (unfold mclS; rw [if_neg hkm1, if_neg hk0, if_neg hk1, if_neg hk2, if_neg hk3, if_pos hk4]; unfold mcE; rw [← eg_1, if_pos zc62, eg_4, eg_3, eg_2]; done) | (unfold mclS; rw [if_neg hkm1, if_neg hk0, if_neg hk1, if_neg hk2, if_neg hk3, if_pos hk4]; unfold mcE; rw [← eg_1, if_pos zc62, eg_4, eg_3, eg_2]; rfl)) | fail)
      · skip
        exact j_vret hx hq d_Mo_clause_65 (by first | (unfold mclS; rw [if_neg hkm1, if_neg hk0, if_neg hk1, if_neg hk2, if_neg hk3, if_pos hk4]; unfold mcE; rw [← eg_1]; exact (if_neg zc62).symm) | fail)
    · skip
      refine j_iload_n hx d_Mo_clause_31 rfl 0 rfl ?_
      refine j_iconst (v := 5) hx d_Mo_clause_32 (by decide) ?_
      refine j_icmp_ge (tgt := 58) hx d_Mo_clause_33 (by decide) (fun zc33 => absurd zc33 (by decide)) (fun _ => ?_)
      refine j_aload_n hx d_Mo_clause_36 rfl 1 rfl ?_
      refine j_get hx ck_Mo 11 (by decide) t_1429 (by decide) (sh_111 _ _) rfl d_Mo_clause_37 ?_
      refine j_iload_n hx d_Mo_clause_40 rfl 0 rfl ?_
      have hz41_100 : zin (4) 6 4 := by first | exact ⟨rfl, by decide⟩ | exact zin_nI (by omega) (by first | decide | omega) | exact zin_of (by omega) (by omega)
      refine j_ialdk hx ia_114 hz41_100 d_Mo_clause_41 ?_
      refine j_iload_n hx d_Mo_clause_42 rfl 0 rfl ?_
      refine j_callSi hx (c_Mo_mostOf hG (mbz σ) 4) mo_Mo_mostOf t_1627 t_1626 (by decide) rfl rfl (Nat.le_of_ble_eq_true rfl) d_Mo_clause_43 ?_
      refine j_icmp_ne (tgt := 58) hx d_Mo_clause_46 (by decide) (fun zc46 => ?_) (fun zc46 => ?_)
      · skip
        obtain ⟨s9_1, eg_1⟩ : ∃ z : St, z = mcA σ 4 6 := ⟨_, rfl⟩
        refine J.to (σ' := s9_1) (by rw [eg_1]; rw [mbz_k (by decide)] at zc28; unfold mcA; first | (rw [if_pos (Or.inl zc28)]; done) | (rw [mbz_o (by decide)] at zc46; first | (rw [if_pos (show σ 111 7 = 60 ∨ σ 114 4 = 6 from Or.inr zc46)]; done) | (rw [if_neg (show ¬ (σ 111 7 = 60 ∨ σ 114 4 = 6) from fun z => z.elim zc28 zc46)]; done))) rfl ?_
        have hp1 : pB s9_1 := by rw [eg_1]; exact mcA_p hp
        have ho1 : s9_1 114 = σ 114 := by rw [eg_1]; exact mcA_o (by decide)
        refine j_aload_n hx d_Mo_clause_58 rfl 1 rfl ?_
        refine j_get hx ck_Mo 5 (by decide) t_1423 (by decide) (sh_111 _ _) rfl d_Mo_clause_59 ?_
        refine j_if_eq (tgt := 66) hx d_Mo_clause_62 (by decide) (fun zc62 => ?_) (fun zc62 => ?_)
        · skip
          refine j_aload_n hx d_Mo_clause_66 rfl 1 rfl ?_
          refine j_callVv hx (c_Mo_skipWord hG s9_1 (by exact hp1)) mo_Mo_skipWord mv_Mo_skipWord t_1629 (by decide) rfl (by decide) (sh_111 _ _) rfl rfl (Nat.le_of_ble_eq_true rfl) d_Mo_clause_67 ?_
          refine j_aload_n hx d_Mo_clause_70 rfl 1 rfl ?_
          refine j_dup hx d_Mo_clause_71 rfl ?_
          refine j_get hx ck_Mo 7 (by decide) t_1425 (by decide) (sh_111 _ _) rfl d_Mo_clause_72 ?_
          refine j_iconst (v := 1) hx d_Mo_clause_75 (by decide) ?_
          refine j_iadd hx d_Mo_clause_76 ?_
          refine j_put hx ck_Mo 7 (by decide) t_1425 (by decide) (sh_111 _ _) rfl (Nat.le_of_ble_eq_true rfl) (sh_111 _ _) d_Mo_clause_77 ?_
          obtain ⟨s9_2, eg_2⟩ : ∃ z : St, z = mc3 s9_1 := ⟨_, rfl⟩
          refine J.to (σ' := s9_2) (by rw [eg_2]; first | done | rfl) rfl ?_
          have hp2 : pB s9_2 := by rw [eg_2]; exact mc3_p hp1
          have ho2 : s9_2 114 = σ 114 := by rw [eg_2, mc3_o (by decide), ho1]
          have hne := (mcA_f (t := σ) (j := 4) (most := 6) (by rw [← eg_1]; first | exact zc62 | exact Decidable.not_not.mp zc62)).1
          have hzn : zin (s9_2 114 4) 6 (nn s9_2 4) := by unfold nn; rw [ho2]; exact nn_lt (m := 6) hT.2.2.2.2.1 hT.2.2.2.2.2 rfl hne
          refine j_aload_n hx d_Mo_clause_80 rfl 1 rfl ?_
          refine j_get hx ck_Mo 11 (by decide) t_1429 (by decide) (sh_111 _ _) rfl d_Mo_clause_81 ?_
          refine j_iload_n hx d_Mo_clause_84 rfl 0 rfl ?_
          have hz85_101 : zin (4) 6 4 := by first | exact ⟨rfl, by decide⟩ | exact zin_nI (by omega) (by first | decide | omega) | exact zin_of (by omega) (by omega)
          refine j_ialdk hx ia_114 hz85_101 d_Mo_clause_85 ?_
          refine j_istore_n hx [(2, .int (s9_2 114 4)), (1, .int 4), (0, .ref (G.1 111))] d_Mo_clause_86 rfl (by decide) rfl ?_
          refine j_iload_n hx d_Mo_clause_87 rfl 1 rfl ?_
          refine j_tableIn (x := 4) (tgt := 236) (off := 148) hx d_Mo_clause_88 (by decide) (by decide) (by decide) (by decide) ?_
          refine j_aload_n hx d_Mo_clause_236 rfl 2 rfl ?_
          refine j_get hx ck_Mo 15 (by decide) t_1433 (by decide) (sh_111 _ _) rfl d_Mo_clause_237 ?_
          refine j_iload_n hx d_Mo_clause_240 rfl 0 rfl ?_
          refine j_aload_n hx d_Mo_clause_241 rfl 2 rfl ?_
          refine j_iconst (v := 1) hx d_Mo_clause_242 (by decide) ?_
          refine j_bipush (v := 9) hx d_Mo_clause_243 (by decide) ?_
          refine j_callVi hx (c_Mo_number hG s9_2 1 9 (by exact hp2)) mo_Mo_number mv_Mo_number t_1633 (by decide) rfl (by decide) (sh_111 _ _) rfl rfl (Nat.le_of_ble_eq_true rfl) d_Mo_clause_245 ?_
          have hz248_102 : zin (s9_2 114 4) 6 ((nn s9_2 4)) := by exact hzn
          refine j_iastk hx ia_118 hz248_102 d_Mo_clause_248 ?_
          obtain ⟨s9_3, eg_3⟩ : ∃ z : St, z = mcB4 s9_2 := ⟨_, rfl⟩
          refine J.to (σ' := s9_3) (by rw [eg_3]; first | done | rfl) rfl ?_
          have hp3 : pB s9_3 := by rw [eg_3]; exact mnO_p hp2 (by decide)
          have ho3 : s9_3 114 = σ 114 := by rw [eg_3]; unfold mcB4; rw [mnO_o (by decide) (by decide), ho2]
          refine j_goto (tgt := 276) hx d_Mo_clause_249 (by decide) ?_
          refine j_iload_n hx d_Mo_clause_276 rfl 1 rfl ?_
          refine j_iconst (v := 5) hx d_Mo_clause_277 (by decide) ?_
          refine j_icmp_ge (tgt := 302) hx d_Mo_clause_278 (by decide) (fun zc278 => absurd zc278 (by decide)) (fun _ => ?_)
          refine j_aload_n hx d_Mo_clause_281 rfl 2 rfl ?_
          refine j_get hx ck_Mo 11 (by decide) t_1429 (by decide) (sh_111 _ _) rfl d_Mo_clause_282 ?_
          refine j_iload_n hx d_Mo_clause_285 rfl 1 rfl ?_
          refine j_dup2_11 hx d_Mo_clause_286 rfl rfl ?_
          have hz287_103 : zin (4) 6 4 := by first | exact ⟨rfl, by decide⟩ | exact zin_nI (by omega) (by first | decide | omega) | exact zin_of (by omega) (by omega)
          refine j_ialdk hx ia_114 hz287_103 d_Mo_clause_287 ?_
          refine j_aload_n hx d_Mo_clause_288 rfl 2 rfl ?_
          refine j_get hx ck_Mo 5 (by decide) t_1423 (by decide) (sh_111 _ _) rfl d_Mo_clause_289 ?_
          refine j_if_ne (tgt := 299) hx d_Mo_clause_292 (by decide) (fun zc292 => ?_) (fun zc292 => ?_)
          · skip
            refine j_iconst (v := 0) hx d_Mo_clause_299 (by decide) ?_
            refine j_iadd hx d_Mo_clause_300 ?_
            have hz301_104 : zin (4) 6 4 := by first | exact ⟨rfl, by decide⟩ | exact zin_nI (by omega) (by first | decide | omega) | exact zin_of (by omega) (by omega)
            refine j_iastk hx ia_114 hz301_104 d_Mo_clause_301 ?_
            obtain ⟨s9_4, eg_4⟩ : ∃ z : St, z = mcC s9_3 4 := ⟨_, rfl⟩
            refine J.to (σ' := s9_4) (by rw [eg_4]; unfold mcC; first | (rw [if_pos zc292]; done) | (rw [if_neg zc292]; done)) rfl ?_
            have hpz : pB s9_4 := by rw [eg_4]; unfold mcC pB; rw [up_o (by decide)]; exact hp3
            refine j_aload_n hx d_Mo_clause_302 rfl 2 rfl ?_
            refine j_bipush (v := 59) hx d_Mo_clause_303 (by decide) ?_
            refine j_callVv hx (c_Mo_sign hG s9_4 59 (by exact hpz)) mo_Mo_sign mv_Mo_sign t_1641 (by decide) rfl (by decide) (sh_111 _ _) rfl rfl (Nat.le_of_ble_eq_true rfl) d_Mo_clause_305 ?_
            exact j_vret hx hq d_Mo_clause_308 (by first | (first | (unfold mclS; rw [if_neg hkm1, if_neg hk0, if_neg hk1, if_neg hk2, if_neg hk3, if_pos hk4]; unfold mcE; rw [← eg_1, if_pos zc62, eg_4, eg_3, eg_2]; done) | (unfold mclS; rw [if_neg hkm1, if_neg hk0, if_neg hk1, if_neg hk2, if_neg hk3, if_pos hk4]; unfold mcE; rw [← eg_1, if_pos zc62, eg_4, eg_3, eg_2]; rfl)) | fail)
          · skip
            refine j_iconst (v := 1) hx d_Mo_clause_295 (by decide) ?_
            refine j_goto (tgt := 300) hx d_Mo_clause_296 (by decide) ?_
            refine j_iadd hx d_Mo_clause_300 ?_
            have hz301_105 : zin (4) 6 4 := by first | exact ⟨rfl, by decide⟩ | exact zin_nI (by omega) (by first | decide | omega) | exact zin_of (by omega) (by omega)
            refine j_iastk hx ia_114 hz301_105 d_Mo_clause_301 ?_
            obtain ⟨s9_4, eg_4⟩ : ∃ z : St, z = mcC s9_3 4 := ⟨_, rfl⟩
            refine J.to (σ' := s9_4) (by rw [eg_4]; unfold mcC; first | (rw [if_pos zc292]; done) | (rw [if_neg zc292]; done)) rfl ?_
            have hpz : pB s9_4 := by rw [eg_4]; unfold mcC pB; rw [up_o (by decide)]; exact hp3
            refine j_aload_n hx d_Mo_clause_302 rfl 2 rfl ?_
            refine j_bipush (v := 59) hx d_Mo_clause_303 (by decide) ?_
            refine j_callVv hx (c_Mo_sign hG s9_4 59 (by exact hpz)) mo_Mo_sign mv_Mo_sign t_1641 (by decide) rfl (by decide) (sh_111 _ _) rfl rfl (Nat.le_of_ble_eq_true rfl) d_Mo_clause_305 ?_
            exact j_vret hx hq d_Mo_clause_308 (by first | (first | (unfold mclS; rw [if_neg hkm1, if_neg hk0, if_neg hk1, if_neg hk2, if_neg hk3, if_pos hk4]; unfold mcE; rw [← eg_1, if_pos zc62, eg_4, eg_3, eg_2]; done) | (unfold mclS; rw [if_neg hkm1, if_neg hk0, if_neg hk1, if_neg hk2, if_neg hk3, if_pos hk4]; unfold mcE; rw [← eg_1, if_pos zc62, eg_4, eg_3, eg_2]; rfl)) | fail)
        · skip
          exact j_vret hx hq d_Mo_clause_65 (by first | (unfold mclS; rw [if_neg hkm1, if_neg hk0, if_neg hk1, if_neg hk2, if_neg hk3, if_pos hk4]; unfold mcE; rw [← eg_1]; exact (if_neg zc62).symm) | fail)
      · skip
        refine j_aload_n hx d_Mo_clause_49 rfl 1 rfl ?_
        refine j_iconst (v := 3) hx d_Mo_clause_50 (by decide) ?_
        refine j_aload_n hx d_Mo_clause_51 rfl 1 rfl ?_
        refine j_get hx ck_Mo 4 (by decide) t_1422 (by decide) (sh_111 _ _) rfl d_Mo_clause_52 ?_
        refine j_callVv hx (c_Mo_wrong hG (mbz σ) 3 ((mbz σ) 111 4)) mo_Mo_wrong mv_Mo_wrong t_1622 (by decide) rfl (by decide) (sh_111 _ _) rfl rfl (Nat.le_of_ble_eq_true rfl) d_Mo_clause_55 ?_
        obtain ⟨s9_1, eg_1⟩ : ∃ z : St, z = mcA σ 4 6 := ⟨_, rfl⟩
        refine J.to (σ' := s9_1) (by rw [eg_1]; rw [mbz_k (by decide)] at zc28; unfold mcA; first | (rw [if_pos (Or.inl zc28)]; done) | (rw [mbz_o (by decide)] at zc46; first | (rw [if_pos (show σ 111 7 = 60 ∨ σ 114 4 = 6 from Or.inr zc46)]; done) | (rw [if_neg (show ¬ (σ 111 7 = 60 ∨ σ 114 4 = 6) from fun z => z.elim zc28 zc46)]; done))) rfl ?_
        have hp1 : pB s9_1 := by rw [eg_1]; exact mcA_p hp
        have ho1 : s9_1 114 = σ 114 := by rw [eg_1]; exact mcA_o (by decide)
        refine j_aload_n hx d_Mo_clause_58 rfl 1 rfl ?_
        refine j_get hx ck_Mo 5 (by decide) t_1423 (by decide) (sh_111 _ _) rfl d_Mo_clause_59 ?_
        refine j_if_eq (tgt := 66) hx d_Mo_clause_62 (by decide) (fun zc62 => ?_) (fun zc62 => ?_)
        · skip
          refine j_aload_n hx d_Mo_clause_66 rfl 1 rfl ?_
          refine j_callVv hx (c_Mo_skipWord hG s9_1 (by exact hp1)) mo_Mo_skipWord mv_Mo_skipWord t_1629 (by decide) rfl (by decide) (sh_111 _ _) rfl rfl (Nat.le_of_ble_eq_true rfl) d_Mo_clause_67 ?_
          refine j_aload_n hx d_Mo_clause_70 rfl 1 rfl ?_
          refine j_dup hx d_Mo_clause_71 rfl ?_
          refine j_get hx ck_Mo 7 (by decide) t_1425 (by decide) (sh_111 _ _) rfl d_Mo_clause_72 ?_
          refine j_iconst (v := 1) hx d_Mo_clause_75 (by decide) ?_
          refine j_iadd hx d_Mo_clause_76 ?_
          refine j_put hx ck_Mo 7 (by decide) t_1425 (by decide) (sh_111 _ _) rfl (Nat.le_of_ble_eq_true rfl) (sh_111 _ _) d_Mo_clause_77 ?_
          obtain ⟨s9_2, eg_2⟩ : ∃ z : St, z = mc3 s9_1 := ⟨_, rfl⟩
          refine J.to (σ' := s9_2) (by rw [eg_2]; first | done | rfl) rfl ?_
          have hp2 : pB s9_2 := by rw [eg_2]; exact mc3_p hp1
          have ho2 : s9_2 114 = σ 114 := by rw [eg_2, mc3_o (by decide), ho1]
          have hne := (mcA_f (t := σ) (j := 4) (most := 6) (by rw [← eg_1]; first | exact zc62 | exact Decidable.not_not.mp zc62)).1
          have hzn : zin (s9_2 114 4) 6 (nn s9_2 4) := by unfold nn; rw [ho2]; exact nn_lt (m := 6) hT.2.2.2.2.1 hT.2.2.2.2.2 rfl hne
          refine j_aload_n hx d_Mo_clause_80 rfl 1 rfl ?_
          refine j_get hx ck_Mo 11 (by decide) t_1429 (by decide) (sh_111 _ _) rfl d_Mo_clause_81 ?_
          refine j_iload_n hx d_Mo_clause_84 rfl 0 rfl ?_
          have hz85_106 : zin (4) 6 4 := by first | exact ⟨rfl, by decide⟩ | exact zin_nI (by omega) (by first | decide | omega) | exact zin_of (by omega) (by omega)
          refine j_ialdk hx ia_114 hz85_106 d_Mo_clause_85 ?_
          refine j_istore_n hx [(2, .int (s9_2 114 4)), (1, .int 4), (0, .ref (G.1 111))] d_Mo_clause_86 rfl (by decide) rfl ?_
          refine j_iload_n hx d_Mo_clause_87 rfl 1 rfl ?_
          refine j_tableIn (x := 4) (tgt := 236) (off := 148) hx d_Mo_clause_88 (by decide) (by decide) (by decide) (by decide) ?_
          refine j_aload_n hx d_Mo_clause_236 rfl 2 rfl ?_
          refine j_get hx ck_Mo 15 (by decide) t_1433 (by decide) (sh_111 _ _) rfl d_Mo_clause_237 ?_
          refine j_iload_n hx d_Mo_clause_240 rfl 0 rfl ?_
          refine j_aload_n hx d_Mo_clause_241 rfl 2 rfl ?_
          refine j_iconst (v := 1) hx d_Mo_clause_242 (by decide) ?_
          refine j_bipush (v := 9) hx d_Mo_clause_243 (by decide) ?_
          refine j_callVi hx (c_Mo_number hG s9_2 1 9 (by exact hp2)) mo_Mo_number mv_Mo_number t_1633 (by decide) rfl (by decide) (sh_111 _ _) rfl rfl (Nat.le_of_ble_eq_true rfl) d_Mo_clause_245 ?_
          have hz248_107 : zin (s9_2 114 4) 6 ((nn s9_2 4)) := by exact hzn
          refine j_iastk hx ia_118 hz248_107 d_Mo_clause_248 ?_
          obtain ⟨s9_3, eg_3⟩ : ∃ z : St, z = mcB4 s9_2 := ⟨_, rfl⟩
          refine J.to (σ' := s9_3) (by rw [eg_3]; first | done | rfl) rfl ?_
          have hp3 : pB s9_3 := by rw [eg_3]; exact mnO_p hp2 (by decide)
          have ho3 : s9_3 114 = σ 114 := by rw [eg_3]; unfold mcB4; rw [mnO_o (by decide) (by decide), ho2]
          refine j_goto (tgt := 276) hx d_Mo_clause_249 (by decide) ?_
          refine j_iload_n hx d_Mo_clause_276 rfl 1 rfl ?_
          refine j_iconst (v := 5) hx d_Mo_clause_277 (by decide) ?_
          refine j_icmp_ge (tgt := 302) hx d_Mo_clause_278 (by decide) (fun zc278 => absurd zc278 (by decide)) (fun _ => ?_)
          refine j_aload_n hx d_Mo_clause_281 rfl 2 rfl ?_
          refine j_get hx ck_Mo 11 (by decide) t_1429 (by decide) (sh_111 _ _) rfl d_Mo_clause_282 ?_
          refine j_iload_n hx d_Mo_clause_285 rfl 1 rfl ?_
          refine j_dup2_11 hx d_Mo_clause_286 rfl rfl ?_
          have hz287_108 : zin (4) 6 4 := by first | exact ⟨rfl, by decide⟩ | exact zin_nI (by omega) (by first | decide | omega) | exact zin_of (by omega) (by omega)
          refine j_ialdk hx ia_114 hz287_108 d_Mo_clause_287 ?_
          refine j_aload_n hx d_Mo_clause_288 rfl 2 rfl ?_
          refine j_get hx ck_Mo 5 (by decide) t_1423 (by decide) (sh_111 _ _) rfl d_Mo_clause_289 ?_
          refine j_if_ne (tgt := 299) hx d_Mo_clause_292 (by decide) (fun zc292 => ?_) (fun zc292 => ?_)
          · skip
            refine j_iconst (v := 0) hx d_Mo_clause_299 (by decide) ?_
            refine j_iadd hx d_Mo_clause_300 ?_
            have hz301_109 : zin (4) 6 4 := by first | exact ⟨rfl, by decide⟩ | exact zin_nI (by omega) (by first | decide | omega) | exact zin_of (by omega) (by omega)
            refine j_iastk hx ia_114 hz301_109 d_Mo_clause_301 ?_
            obtain ⟨s9_4, eg_4⟩ : ∃ z : St, z = mcC s9_3 4 := ⟨_, rfl⟩
            refine J.to (σ' := s9_4) (by rw [eg_4]; unfold mcC; first | (rw [if_pos zc292]; done) | (rw [if_neg zc292]; done)) rfl ?_
            have hpz : pB s9_4 := by rw [eg_4]; unfold mcC pB; rw [up_o (by decide)]; exact hp3
            refine j_aload_n hx d_Mo_clause_302 rfl 2 rfl ?_
            refine j_bipush (v := 59) hx d_Mo_clause_303 (by decide) ?_
            refine j_callVv hx (c_Mo_sign hG s9_4 59 (by exact hpz)) mo_Mo_sign mv_Mo_sign t_1641 (by decide) rfl (by decide) (sh_111 _ _) rfl rfl (Nat.le_of_ble_eq_true rfl) d_Mo_clause_305 ?_
            exact j_vret hx hq d_Mo_clause_308 (by first | (first | (unfold mclS; rw [if_neg hkm1, if_neg hk0, if_neg hk1, if_neg hk2, if_neg hk3, if_pos hk4]; unfold mcE; rw [← eg_1, if_pos zc62, eg_4, eg_3, eg_2]; done) | (unfold mclS; rw [if_neg hkm1, if_neg hk0, if_neg hk1, if_neg hk2, if_neg hk3, if_pos hk4]; unfold mcE; rw [← eg_1, if_pos zc62, eg_4, eg_3, eg_2]; rfl)) | fail)
          · skip
            refine j_iconst (v := 1) hx d_Mo_clause_295 (by decide) ?_
            refine j_goto (tgt := 300) hx d_Mo_clause_296 (by decide) ?_
            refine j_iadd hx d_Mo_clause_300 ?_
            have hz301_110 : zin (4) 6 4 := by first | exact ⟨rfl, by decide⟩ | exact zin_nI (by omega) (by first | decide | omega) | exact zin_of (by omega) (by omega)
            refine j_iastk hx ia_114 hz301_110 d_Mo_clause_301 ?_
            obtain ⟨s9_4, eg_4⟩ : ∃ z : St, z = mcC s9_3 4 := ⟨_, rfl⟩
            refine J.to (σ' := s9_4) (by rw [eg_4]; unfold mcC; first | (rw [if_pos zc292]; done) | (rw [if_neg zc292]; done)) rfl ?_
            have hpz : pB s9_4 := by rw [eg_4]; unfold mcC pB; rw [up_o (by decide)]; exact hp3
            refine j_aload_n hx d_Mo_clause_302 rfl 2 rfl ?_
            refine j_bipush (v := 59) hx d_Mo_clause_303 (by decide) ?_
            refine j_callVv hx (c_Mo_sign hG s9_4 59 (by exact hpz)) mo_Mo_sign mv_Mo_sign t_1641 (by decide) rfl (by decide) (sh_111 _ _) rfl rfl (Nat.le_of_ble_eq_true rfl) d_Mo_clause_305 ?_
            exact j_vret hx hq d_Mo_clause_308 (by first | (first | (unfold mclS; rw [if_neg hkm1, if_neg hk0, if_neg hk1, if_neg hk2, if_neg hk3, if_pos hk4]; unfold mcE; rw [← eg_1, if_pos zc62, eg_4, eg_3, eg_2]; done) | (unfold mclS; rw [if_neg hkm1, if_neg hk0, if_neg hk1, if_neg hk2, if_neg hk3, if_pos hk4]; unfold mcE; rw [← eg_1, if_pos zc62, eg_4, eg_3, eg_2]; rfl)) | fail)
        · skip
          exact j_vret hx hq d_Mo_clause_65 (by first | (unfold mclS; rw [if_neg hkm1, if_neg hk0, if_neg hk1, if_neg hk2, if_neg hk3, if_pos hk4]; unfold mcE; rw [← eg_1]; exact (if_neg zc62).symm) | fail)
  by_cases hk5 : mkV σ = 5
  · skip
    refine J.to (ls' := [(1, .int 5), (0, .ref (G.1 111))]) rfl (by rw [hk5]) ?_
    refine j_iload_n hx d_Mo_clause_5 rfl 0 rfl ?_
    refine j_iconst (v := (-1)) hx d_Mo_clause_6 (by decide) ?_
    refine j_icmp_ne (tgt := 22) hx d_Mo_clause_7 (by decide) (fun _ => ?_) (fun zc7 => absurd zc7 (by decide))
    refine j_aload_n hx d_Mo_clause_22 rfl 1 rfl ?_
    refine j_get hx ck_Mo 7 (by decide) t_1425 (by decide) (sh_111 _ _) rfl d_Mo_clause_23 ?_
    refine j_bipush (v := 60) hx d_Mo_clause_26 (by decide) ?_
    refine j_icmp_eq (tgt := 49) hx d_Mo_clause_28 (by decide) (fun zc28 => ?_) (fun zc28 => ?_)
    · skip
      refine j_aload_n hx d_Mo_clause_49 rfl 1 rfl ?_
      refine j_iconst (v := 3) hx d_Mo_clause_50 (by decide) ?_
      refine j_aload_n hx d_Mo_clause_51 rfl 1 rfl ?_
      refine j_get hx ck_Mo 4 (by decide) t_1422 (by decide) (sh_111 _ _) rfl d_Mo_clause_52 ?_
      refine j_callVv hx (c_Mo_wrong hG (mbz σ) 3 ((mbz σ) 111 4)) mo_Mo_wrong mv_Mo_wrong t_1622 (by decide) rfl (by decide) (sh_111 _ _) rfl rfl (Nat.le_of_ble_eq_true rfl) d_Mo_clause_55 ?_
      obtain ⟨s9_1, eg_1⟩ : ∃ z : St, z = mcA5 σ := ⟨_, rfl⟩
      refine J.to (σ' := s9_1) (by rw [eg_1]; rw [mbz_k (by decide)] at zc28; unfold mcA5; first | (rw [if_pos zc28]; done) | (rw [if_neg zc28]; done)) rfl ?_
      have hp1 : pB s9_1 := by rw [eg_1]; exact mcA5_p hp
      refine j_aload_n hx d_Mo_clause_58 rfl 1 rfl ?_
      refine j_get hx ck_Mo 5 (by decide) t_1423 (by decide) (sh_111 _ _) rfl d_Mo_clause_59 ?_
      refine j_if_eq (tgt := 66) hx d_Mo_clause_62 (by decide) (fun zc62 => ?_) (fun zc62 => ?_)
      · skip
        refine j_aload_n hx d_Mo_clause_66 rfl 1 rfl ?_
        refine j_callVv hx (c_Mo_skipWord hG s9_1 (by exact hp1)) mo_Mo_skipWord mv_Mo_skipWord t_1629 (by decide) rfl (by decide) (sh_111 _ _) rfl rfl (Nat.le_of_ble_eq_true rfl) d_Mo_clause_67 ?_
        refine j_aload_n hx d_Mo_clause_70 rfl 1 rfl ?_
        refine j_dup hx d_Mo_clause_71 rfl ?_
        refine j_get hx ck_Mo 7 (by decide) t_1425 (by decide) (sh_111 _ _) rfl d_Mo_clause_72 ?_
        refine j_iconst (v := 1) hx d_Mo_clause_75 (by decide) ?_
        refine j_iadd hx d_Mo_clause_76 ?_
        refine j_put hx ck_Mo 7 (by decide) t_1425 (by decide) (sh_111 _ _) rfl (Nat.le_of_ble_eq_true rfl) (sh_111 _ _) d_Mo_clause_77 ?_
        obtain ⟨s9_2, eg_2⟩ : ∃ z : St, z = mc3 s9_1 := ⟨_, rfl⟩
        refine J.to (σ' := s9_2) (by rw [eg_2]; first | done | rfl) rfl ?_
        have hp2 : pB s9_2 := by rw [eg_2]; exact mc3_p hp1
        refine j_aload_n hx d_Mo_clause_80 rfl 1 rfl ?_
        refine j_get hx ck_Mo 11 (by decide) t_1429 (by decide) (sh_111 _ _) rfl d_Mo_clause_81 ?_
        refine j_iload_n hx d_Mo_clause_84 rfl 0 rfl ?_
        have hz85_111 : zin (5) 6 5 := by first | exact ⟨rfl, by decide⟩ | exact zin_nI (by omega) (by first | decide | omega) | exact zin_of (by omega) (by omega)
        refine j_ialdk hx ia_114 hz85_111 d_Mo_clause_85 ?_
        refine j_istore_n hx [(2, .int (s9_2 114 5)), (1, .int 5), (0, .ref (G.1 111))] d_Mo_clause_86 rfl (by decide) rfl ?_
        refine j_iload_n hx d_Mo_clause_87 rfl 1 rfl ?_
        refine j_tableOut (x := 5) (tgt := 252) hx d_Mo_clause_88 (by decide) (by decide) ?_
        refine j_aload_n hx d_Mo_clause_252 rfl 2 rfl ?_
        refine j_iconst (v := 0) hx d_Mo_clause_253 (by decide) ?_
        refine j_iconst (v := 5) hx d_Mo_clause_254 (by decide) ?_
        have hp3 : pB (mnS s9_2 0 5) := mnS_p hp2
        refine j_callVi hx (c_Mo_number hG s9_2 0 5 (by exact hp2)) mo_Mo_number mv_Mo_number t_1633 (by decide) rfl (by decide) (sh_111 _ _) rfl rfl (Nat.le_of_ble_eq_true rfl) d_Mo_clause_255 ?_
        refine j_istore_n hx [(3, .int (mnV s9_2 0 5)), (2, .int (s9_2 114 5)), (1, .int 5), (0, .ref (G.1 111))] d_Mo_clause_258 rfl (by decide) rfl ?_
        refine j_aload_n hx d_Mo_clause_259 rfl 3 rfl ?_
        refine j_get hx ck_Mo 5 (by decide) t_1423 (by decide) (sh_111 _ _) rfl d_Mo_clause_260 ?_
        refine j_if_ne (tgt := 276) hx d_Mo_clause_263 (by decide) (fun zc263 => ?_) (fun zc263 => ?_)
        · skip
          obtain ⟨s9_3, eg_3⟩ : ∃ z : St, z = mcB5 s9_2 := ⟨_, rfl⟩
          refine J.to (σ' := s9_3) (by rw [eg_3]; unfold mcB5; first | (rw [if_pos zc263]; done) | (rw [if_neg zc263]; done)) rfl ?_
          have hp4 : pB s9_3 := by rw [eg_3]; exact mcB5_p hp2
          refine j_iload_n hx d_Mo_clause_276 rfl 2 rfl ?_
          refine j_iconst (v := 5) hx d_Mo_clause_277 (by decide) ?_
          refine j_icmp_ge (tgt := 302) hx d_Mo_clause_278 (by decide) (fun _ => ?_) (fun zc278 => absurd (by decide) zc278)
          have hpz := hp4
          refine j_aload_n hx d_Mo_clause_302 rfl 3 rfl ?_
          refine j_bipush (v := 59) hx d_Mo_clause_303 (by decide) ?_
          refine j_callVv hx (c_Mo_sign hG s9_3 59 (by exact hpz)) mo_Mo_sign mv_Mo_sign t_1641 (by decide) rfl (by decide) (sh_111 _ _) rfl rfl (Nat.le_of_ble_eq_true rfl) d_Mo_clause_305 ?_
          exact j_vret hx hq d_Mo_clause_308 (by first | (first | (unfold mclS; rw [if_neg hkm1, if_neg hk0, if_neg hk1, if_neg hk2, if_neg hk3, if_neg hk4]; unfold mcE; rw [← eg_1, if_pos zc62, eg_3, eg_2]; done) | (unfold mclS; rw [if_neg hkm1, if_neg hk0, if_neg hk1, if_neg hk2, if_neg hk3, if_neg hk4]; unfold mcE; rw [← eg_1, if_pos zc62, eg_3, eg_2]; rfl)) | fail)
        · skip
          refine j_aload_n hx d_Mo_clause_266 rfl 3 rfl ?_
          refine j_get hx ck_Mo 11 (by decide) t_1429 (by decide) (sh_111 _ _) rfl d_Mo_clause_267 ?_
          refine j_iconst (v := 5) hx d_Mo_clause_270 (by decide) ?_
          refine j_iload_n hx d_Mo_clause_271 rfl 0 rfl ?_
          have hz272_112 : zin (5) 6 5 := by first | exact ⟨rfl, by decide⟩ | exact zin_nI (by omega) (by first | decide | omega) | exact zin_of (by omega) (by omega)
          refine j_iastk hx ia_114 hz272_112 d_Mo_clause_272 ?_
          refine j_goto (tgt := 276) hx d_Mo_clause_273 (by decide) ?_
          obtain ⟨s9_3, eg_3⟩ : ∃ z : St, z = mcB5 s9_2 := ⟨_, rfl⟩
          refine J.to (σ' := s9_3) (by rw [eg_3]; unfold mcB5; first | (rw [if_pos zc263]; done) | (rw [if_neg zc263]; done)) rfl ?_
          have hp4 : pB s9_3 := by rw [eg_3]; exact mcB5_p hp2
          refine j_iload_n hx d_Mo_clause_276 rfl 2 rfl ?_
          refine j_iconst (v := 5) hx d_Mo_clause_277 (by decide) ?_
          refine j_icmp_ge (tgt := 302) hx d_Mo_clause_278 (by decide) (fun _ => ?_) (fun zc278 => absurd (by decide) zc278)
          have hpz := hp4
          refine j_aload_n hx d_Mo_clause_302 rfl 3 rfl ?_
          refine j_bipush (v := 59) hx d_Mo_clause_303 (by decide) ?_
          refine j_callVv hx (c_Mo_sign hG s9_3 59 (by exact hpz)) mo_Mo_sign mv_Mo_sign t_1641 (by decide) rfl (by decide) (sh_111 _ _) rfl rfl (Nat.le_of_ble_eq_true rfl) d_Mo_clause_305 ?_
          exact j_vret hx hq d_Mo_clause_308 (by first | (first | (unfold mclS; rw [if_neg hkm1, if_neg hk0, if_neg hk1, if_neg hk2, if_neg hk3, if_neg hk4]; unfold mcE; rw [← eg_1, if_pos zc62, eg_3, eg_2]; done) | (unfold mclS; rw [if_neg hkm1, if_neg hk0, if_neg hk1, if_neg hk2, if_neg hk3, if_neg hk4]; unfold mcE; rw [← eg_1, if_pos zc62, eg_3, eg_2]; rfl)) | fail)
      · skip
        exact j_vret hx hq d_Mo_clause_65 (by first | (unfold mclS; rw [if_neg hkm1, if_neg hk0, if_neg hk1, if_neg hk2, if_neg hk3, if_neg hk4]; unfold mcE; rw [← eg_1]; exact (if_neg zc62).symm) | fail)
    · skip
      refine j_iload_n hx d_Mo_clause_31 rfl 0 rfl ?_
      refine j_iconst (v := 5) hx d_Mo_clause_32 (by decide) ?_
      refine j_icmp_ge (tgt := 58) hx d_Mo_clause_33 (by decide) (fun _ => ?_) (fun zc33 => absurd (by decide) zc33)
      obtain ⟨s9_1, eg_1⟩ : ∃ z : St, z = mcA5 σ := ⟨_, rfl⟩
      refine J.to (σ' := s9_1) (by rw [eg_1]; rw [mbz_k (by decide)] at zc28; unfold mcA5; first | (rw [if_pos zc28]; done) | (rw [if_neg zc28]; done)) rfl ?_
      have hp1 : pB s9_1 := by rw [eg_1]; exact mcA5_p hp
      refine j_aload_n hx d_Mo_clause_58 rfl 1 rfl ?_
      refine j_get hx ck_Mo 5 (by decide) t_1423 (by decide) (sh_111 _ _) rfl d_Mo_clause_59 ?_
      refine j_if_eq (tgt := 66) hx d_Mo_clause_62 (by decide) (fun zc62 => ?_) (fun zc62 => ?_)
      · skip
        refine j_aload_n hx d_Mo_clause_66 rfl 1 rfl ?_
        refine j_callVv hx (c_Mo_skipWord hG s9_1 (by exact hp1)) mo_Mo_skipWord mv_Mo_skipWord t_1629 (by decide) rfl (by decide) (sh_111 _ _) rfl rfl (Nat.le_of_ble_eq_true rfl) d_Mo_clause_67 ?_
        refine j_aload_n hx d_Mo_clause_70 rfl 1 rfl ?_
        refine j_dup hx d_Mo_clause_71 rfl ?_
        refine j_get hx ck_Mo 7 (by decide) t_1425 (by decide) (sh_111 _ _) rfl d_Mo_clause_72 ?_
        refine j_iconst (v := 1) hx d_Mo_clause_75 (by decide) ?_
        refine j_iadd hx d_Mo_clause_76 ?_
        refine j_put hx ck_Mo 7 (by decide) t_1425 (by decide) (sh_111 _ _) rfl (Nat.le_of_ble_eq_true rfl) (sh_111 _ _) d_Mo_clause_77 ?_
        obtain ⟨s9_2, eg_2⟩ : ∃ z : St, z = mc3 s9_1 := ⟨_, rfl⟩
        refine J.to (σ' := s9_2) (by rw [eg_2]; first | done | rfl) rfl ?_
        have hp2 : pB s9_2 := by rw [eg_2]; exact mc3_p hp1
        refine j_aload_n hx d_Mo_clause_80 rfl 1 rfl ?_
        refine j_get hx ck_Mo 11 (by decide) t_1429 (by decide) (sh_111 _ _) rfl d_Mo_clause_81 ?_
        refine j_iload_n hx d_Mo_clause_84 rfl 0 rfl ?_
        have hz85_113 : zin (5) 6 5 := by first | exact ⟨rfl, by decide⟩ | exact zin_nI (by omega) (by first | decide | omega) | exact zin_of (by omega) (by omega)
        refine j_ialdk hx ia_114 hz85_113 d_Mo_clause_85 ?_
        refine j_istore_n hx [(2, .int (s9_2 114 5)), (1, .int 5), (0, .ref (G.1 111))] d_Mo_clause_86 rfl (by decide) rfl ?_
        refine j_iload_n hx d_Mo_clause_87 rfl 1 rfl ?_
        refine j_tableOut (x := 5) (tgt := 252) hx d_Mo_clause_88 (by decide) (by decide) ?_
        refine j_aload_n hx d_Mo_clause_252 rfl 2 rfl ?_
        refine j_iconst (v := 0) hx d_Mo_clause_253 (by decide) ?_
        refine j_iconst (v := 5) hx d_Mo_clause_254 (by decide) ?_
        have hp3 : pB (mnS s9_2 0 5) := mnS_p hp2
        refine j_callVi hx (c_Mo_number hG s9_2 0 5 (by exact hp2)) mo_Mo_number mv_Mo_number t_1633 (by decide) rfl (by decide) (sh_111 _ _) rfl rfl (Nat.le_of_ble_eq_true rfl) d_Mo_clause_255 ?_
        refine j_istore_n hx [(3, .int (mnV s9_2 0 5)), (2, .int (s9_2 114 5)), (1, .int 5), (0, .ref (G.1 111))] d_Mo_clause_258 rfl (by decide) rfl ?_
        refine j_aload_n hx d_Mo_clause_259 rfl 3 rfl ?_
        refine j_get hx ck_Mo 5 (by decide) t_1423 (by decide) (sh_111 _ _) rfl d_Mo_clause_260 ?_
        refine j_if_ne (tgt := 276) hx d_Mo_clause_263 (by decide) (fun zc263 => ?_) (fun zc263 => ?_)
        · skip
          obtain ⟨s9_3, eg_3⟩ : ∃ z : St, z = mcB5 s9_2 := ⟨_, rfl⟩
          refine J.to (σ' := s9_3) (by rw [eg_3]; unfold mcB5; first | (rw [if_pos zc263]; done) | (rw [if_neg zc263]; done)) rfl ?_
          have hp4 : pB s9_3 := by rw [eg_3]; exact mcB5_p hp2
          refine j_iload_n hx d_Mo_clause_276 rfl 2 rfl ?_
          refine j_iconst (v := 5) hx d_Mo_clause_277 (by decide) ?_
          refine j_icmp_ge (tgt := 302) hx d_Mo_clause_278 (by decide) (fun _ => ?_) (fun zc278 => absurd (by decide) zc278)
          have hpz := hp4
          refine j_aload_n hx d_Mo_clause_302 rfl 3 rfl ?_
          refine j_bipush (v := 59) hx d_Mo_clause_303 (by decide) ?_
          refine j_callVv hx (c_Mo_sign hG s9_3 59 (by exact hpz)) mo_Mo_sign mv_Mo_sign t_1641 (by decide) rfl (by decide) (sh_111 _ _) rfl rfl (Nat.le_of_ble_eq_true rfl) d_Mo_clause_305 ?_
          exact j_vret hx hq d_Mo_clause_308 (by first | (first | (unfold mclS; rw [if_neg hkm1, if_neg hk0, if_neg hk1, if_neg hk2, if_neg hk3, if_neg hk4]; unfold mcE; rw [← eg_1, if_pos zc62, eg_3, eg_2]; done) | (unfold mclS; rw [if_neg hkm1, if_neg hk0, if_neg hk1, if_neg hk2, if_neg hk3, if_neg hk4]; unfold mcE; rw [← eg_1, if_pos zc62, eg_3, eg_2]; rfl)) | fail)
        · skip
          refine j_aload_n hx d_Mo_clause_266 rfl 3 rfl ?_
          refine j_get hx ck_Mo 11 (by decide) t_1429 (by decide) (sh_111 _ _) rfl d_Mo_clause_267 ?_
          refine j_iconst (v := 5) hx d_Mo_clause_270 (by decide) ?_
          refine j_iload_n hx d_Mo_clause_271 rfl 0 rfl ?_
          have hz272_114 : zin (5) 6 5 := by first | exact ⟨rfl, by decide⟩ | exact zin_nI (by omega) (by first | decide | omega) | exact zin_of (by omega) (by omega)
          refine j_iastk hx ia_114 hz272_114 d_Mo_clause_272 ?_
          refine j_goto (tgt := 276) hx d_Mo_clause_273 (by decide) ?_
          obtain ⟨s9_3, eg_3⟩ : ∃ z : St, z = mcB5 s9_2 := ⟨_, rfl⟩
          refine J.to (σ' := s9_3) (by rw [eg_3]; unfold mcB5; first | (rw [if_pos zc263]; done) | (rw [if_neg zc263]; done)) rfl ?_
          have hp4 : pB s9_3 := by rw [eg_3]; exact mcB5_p hp2
          refine j_iload_n hx d_Mo_clause_276 rfl 2 rfl ?_
          refine j_iconst (v := 5) hx d_Mo_clause_277 (by decide) ?_
          refine j_icmp_ge (tgt := 302) hx d_Mo_clause_278 (by decide) (fun _ => ?_) (fun zc278 => absurd (by decide) zc278)
          have hpz := hp4
          refine j_aload_n hx d_Mo_clause_302 rfl 3 rfl ?_
          refine j_bipush (v := 59) hx d_Mo_clause_303 (by decide) ?_
          refine j_callVv hx (c_Mo_sign hG s9_3 59 (by exact hpz)) mo_Mo_sign mv_Mo_sign t_1641 (by decide) rfl (by decide) (sh_111 _ _) rfl rfl (Nat.le_of_ble_eq_true rfl) d_Mo_clause_305 ?_
          exact j_vret hx hq d_Mo_clause_308 (by first | (first | (unfold mclS; rw [if_neg hkm1, if_neg hk0, if_neg hk1, if_neg hk2, if_neg hk3, if_neg hk4]; unfold mcE; rw [← eg_1, if_pos zc62, eg_3, eg_2]; done) | (unfold mclS; rw [if_neg hkm1, if_neg hk0, if_neg hk1, if_neg hk2, if_neg hk3, if_neg hk4]; unfold mcE; rw [← eg_1, if_pos zc62, eg_3, eg_2]; rfl)) | fail)
      · skip
        exact j_vret hx hq d_Mo_clause_65 (by first | (unfold mclS; rw [if_neg hkm1, if_neg hk0, if_neg hk1, if_neg hk2, if_neg hk3, if_neg hk4]; unfold mcE; rw [← eg_1]; exact (if_neg zc62).symm) | fail)
  rcases mkV_rng (t := σ) with z | z | z | z | z | z | z <;> contradiction

