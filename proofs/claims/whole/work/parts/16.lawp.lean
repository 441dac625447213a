/-! ===== reading a law (draft 59) ===== -/
def moS (s : St) (op : Int32) : St := if op < 6 then s else bl s 3 (s 1 4)
theorem moS_lt {s : St} {op : Int32} (h : ¬ b2 ((moS s op) 1 5 = 0) = 0) : op < 6 := by
  by_cases ho : op < 6
  · exact ho
  · have h2 := b2_nz h
    unfold moS at h2
    rw [if_neg ho] at h2
    unfold bl at h2
    by_cases h3 : s 1 5 = 0
    · rw [if_pos h3, up_k (by decide), up_rd] at h2; exact absurd h2 (by decide)
    · rw [if_neg h3] at h2; exact absurd h2 h3
def lpN (rec : St → St) (op : Int32) (s : St) : St :=
  if woI s 2 < 9 then emt (woS s 2) 59 (woI s 2) 0
  else if b2 ((moS (woS s 2) op) 1 5 = 0) = 0 then emt (moS (woS s 2) op) 59 (woI s 2) 0
  else emt (tkR (rec (tkR (rec (tkR (moS (woS s 2) op) 91)) 44)) 93) 59 (woI s 2) 0
def lpB (rec : St → St) (op : Int32) (s : St) : St := if b2 ((moS s op) 1 5 = 0) = 0 then moS s op else tkR (rec (moS s op)) 41
def lpF (rec : St → St) (op : Int32) (s : St) : St :=
  if b2 (s 1 5 = 0) = 0 then s
  else if ¬ b2 (dnP s) = 0 then emt (nuS s 0 999) 59 11 (nuV (nu1 s))
  else if ¬ b2 (tkP s 40) = 0 then lpB rec op (tkS s 40)
  else lpN rec op (tkS s 40)
theorem lpF_0 {rec : St → St} {op : Int32} {s : St} (h : b2 (s 1 5 = 0) = 0) : lpF rec op s = s := by unfold lpF; rw [if_pos h]
theorem lpF_1 {rec : St → St} {op : Int32} {s : St} (h : ¬ b2 (s 1 5 = 0) = 0) (h1 : ¬ b2 (dnP s) = 0) : lpF rec op s = emt (nuS s 0 999) 59 11 (nuV (nu1 s)) := by unfold lpF; rw [if_neg h, if_pos h1]
theorem lpF_2 {rec : St → St} {op : Int32} {s : St} (h : ¬ b2 (s 1 5 = 0) = 0) (h1 : b2 (dnP s) = 0) (h2 : ¬ b2 (tkP s 40) = 0) : lpF rec op s = lpB rec op (tkS s 40) := by unfold lpF; rw [if_neg h, if_neg (fun z => z h1), if_pos h2]
theorem lpF_3 {rec : St → St} {op : Int32} {s : St} (h : ¬ b2 (s 1 5 = 0) = 0) (h1 : b2 (dnP s) = 0) (h2 : b2 (tkP s 40) = 0) : lpF rec op s = lpN rec op (tkS s 40) := by unfold lpF; rw [if_neg h, if_neg (fun z => z h1), if_neg (fun z => z h2)]
def sg3 (s : St) : Int32 × St := if ¬ b2 (tkP s 42) = 0 then (14, tkS s 42) else if ¬ b2 (tkP (tkS s 42) 47) = 0 then (15, tkS (tkS s 42) 47) else if ¬ b2 (tkP (tkS (tkS s 42) 47) 37) = 0 then (16, tkS (tkS (tkS s 42) 47) 37) else (-1, tkS (tkS (tkS s 42) 47) 37)
theorem sg3_1 {s : St} (h1 : ¬ b2 (tkP s 42) = 0) : sg3 s = (14, tkS s 42) := if_pos h1
theorem sg3_2 {s : St} (h1 : b2 (tkP s 42) = 0) (h2 : ¬ b2 (tkP (tkS s 42) 47) = 0) : sg3 s = (15, tkS (tkS s 42) 47) := by unfold sg3; rw [if_neg (fun z => z h1), if_pos h2]
theorem sg3_3 {s : St} (h1 : b2 (tkP s 42) = 0) (h2 : b2 (tkP (tkS s 42) 47) = 0) (h3 : ¬ b2 (tkP (tkS (tkS s 42) 47) 37) = 0) : sg3 s = (16, tkS (tkS (tkS s 42) 47) 37) := by unfold sg3; rw [if_neg (fun z => z h1), if_neg (fun z => z h2), if_pos h3]
theorem sg3_0 {s : St} (h1 : b2 (tkP s 42) = 0) (h2 : b2 (tkP (tkS s 42) 47) = 0) (h3 : b2 (tkP (tkS (tkS s 42) 47) 37) = 0) : sg3 s = (-1, tkS (tkS (tkS s 42) 47) 37) := by unfold sg3; rw [if_neg (fun z => z h1), if_neg (fun z => z h2), if_neg (fun z => z h3)]
def sg2 (s : St) : Int32 × St := if ¬ b2 (tkP s 43) = 0 then (12, tkS s 43) else if ¬ b2 (tkP (tkS s 43) 45) = 0 then (13, tkS (tkS s 43) 45) else (-1, tkS (tkS s 43) 45)
theorem sg2_1 {s : St} (h1 : ¬ b2 (tkP s 43) = 0) : sg2 s = (12, tkS s 43) := if_pos h1
theorem sg2_2 {s : St} (h1 : b2 (tkP s 43) = 0) (h2 : ¬ b2 (tkP (tkS s 43) 45) = 0) : sg2 s = (13, tkS (tkS s 43) 45) := by unfold sg2; rw [if_neg (fun z => z h1), if_pos h2]
theorem sg2_0 {s : St} (h1 : b2 (tkP s 43) = 0) (h2 : b2 (tkP (tkS s 43) 45) = 0) : sg2 s = (-1, tkS (tkS s 43) 45) := by unfold sg2; rw [if_neg (fun z => z h1), if_neg (fun z => z h2)]
/-- operands with signs between them: sg reads a sign, f an operand -/
def opR (sg : St → Int32 × St) (f : St → St) : Nat → St → St
  | 0, s => s
  | n + 1, s => if b2 (s 1 5 = 0) = 0 then s else if (sg s).1 = -1 then (sg s).2 else opR sg f n (emt (f (sg s).2) 59 (sg s).1 0)
theorem opR_end {sg : St → Int32 × St} {f : St → St} {N : Nat} {s : St} : opR sg f (N - N) s = s := by rw [Nat.sub_self, opR]
theorem opR_stop {sg : St → Int32 × St} {f : St → St} {n : Nat} {s : St} (h : b2 (s 1 5 = 0) = 0) : opR sg f n s = s := by
  cases n with
  | zero => rfl
  | succ n => rw [opR, if_pos h]
theorem opR_none {sg : St → Int32 × St} {f : St → St} {N i : Nat} {s t : St} (h : i < N) (h1 : ¬ b2 (s 1 5 = 0) = 0) (h2 : sg s = (-1, t)) : opR sg f (N - i) s = t := by
  rw [show N - i = (N - (i + 1)) + 1 by omega, opR, if_neg h1, if_pos (by rw [h2]), h2]
theorem opR_go {sg : St → Int32 × St} {f : St → St} {N i : Nat} {s t : St} {c : Int32} (h : i < N) (h1 : ¬ b2 (s 1 5 = 0) = 0) (h2 : sg s = (c, t)) (hc : ¬ c = -1) : opR sg f (N - i) s = opR sg f (N - (i + 1)) (emt (f t) 59 c 0) := by
  rw [show N - i = (N - (i + 1)) + 1 by omega, opR, if_neg h1, if_neg (by rw [h2]; exact hc), h2]
def lqF (rec : St → St) (op : Int32) (s : St) : St := opR sg3 (lpF rec op) 150 (lpF rec op s)
def lsF (rec : St → St) (op : Int32) (s : St) : St := opR sg2 (lqF rec op) 150 (lqF rec op s)
/-- a sum in which n more may be opened -/
def lsN : Nat → Int32 → St → St
  | 0, op => lsF (fun s => s) op
  | n + 1, op => lsF (lsN n (op + 1)) op
def lwR (s : St) : St := rq (lsN 6 0 (up s 59 4 0)) (b2 ((lsN 6 0 (up s 59 4 0)) 1 2 ≤ (lsN 6 0 (up s 59 4 0)) 1 3))

set_option maxRecDepth 20000 in
set_option maxHeartbeats 4000000 in
theorem c_Law_mayOpen {l : Launch} {G : Gz} (hG : zI G) (σ : St) (op : Int32) : MI l G y_Law_mayOpen prog_5_method_13_code 2 .boolean 3 [.ref (G.1 1), .int op] σ (b2 ((moS σ op) 1 5 = 0)) (moS σ op) := by
  refine MI.of hG (by decide) (Nat.le_of_ble_eq_true rfl) (fun X hx hq => ?_)
  show J l G X 2 σ 0 [(0, .ref (G.1 1)), (1, .int op)] []
  refine j_iload_n hx d_Law_mayOpen_0 rfl 1 rfl ?_
  refine j_bipush (v := 6) hx d_Law_mayOpen_1 (by decide) ?_
  refine j_icmp_lt (tgt := 11) hx d_Law_mayOpen_3 (by decide) (fun zc3 => ?_) (fun zc3 => ?_)
  · skip
    obtain ⟨s9_1, eg_1⟩ : ∃ z : St, z = moS σ op := ⟨_, rfl⟩
    refine J.to (σ' := s9_1) (by rw [eg_1]; unfold moS; first | (rw [if_pos zc3]; done) | (rw [if_neg zc3]; done)) rfl ?_
    refine j_aload_n hx d_Law_mayOpen_11 rfl 0 rfl ?_
    refine j_callVi hx (c_Tape_fine hG s9_1) mo_Tape_fine mv_Tape_fine t_807 (by decide) rfl (by decide) (sh_1 _ _) rfl rfl (Nat.le_of_ble_eq_true rfl) d_Law_mayOpen_12 ?_
    exact j_iret hx hq (nz_b2 _) d_Law_mayOpen_15 (by first | (rw [eg_1]) | fail) (by first | (rw [eg_1]) | fail)
  · skip
    refine j_aload_n hx d_Law_mayOpen_6 rfl 0 rfl ?_
    refine j_iconst (v := 3) hx d_Law_mayOpen_7 (by decide) ?_
    refine j_callVv hx (c_Tape_blameItem hG σ 3) mo_Tape_blameItem mv_Tape_blameItem t_814 (by decide) rfl (by decide) (sh_1 _ _) rfl rfl (Nat.le_of_ble_eq_true rfl) d_Law_mayOpen_8 ?_
    obtain ⟨s9_1, eg_1⟩ : ∃ z : St, z = moS σ op := ⟨_, rfl⟩
    refine J.to (σ' := s9_1) (by rw [eg_1]; unfold moS; first | (rw [if_pos zc3]; done) | (rw [if_neg zc3]; done)) rfl ?_
    refine j_aload_n hx d_Law_mayOpen_11 rfl 0 rfl ?_
    refine j_callVi hx (c_Tape_fine hG s9_1) mo_Tape_fine mv_Tape_fine t_807 (by decide) rfl (by decide) (sh_1 _ _) rfl rfl (Nat.le_of_ble_eq_true rfl) d_Law_mayOpen_12 ?_
    exact j_iret hx hq (nz_b2 _) d_Law_mayOpen_15 (by first | (rw [eg_1]) | fail) (by first | (rw [eg_1]) | fail)

set_option maxRecDepth 20000 in
set_option maxHeartbeats 4000000 in
theorem c_Law_readPart {l : Launch} {G : Gz} (hG : zI G) (σ : St) (op : Int32) {kr : Nat} (rec : St → St) (hrec : op < 6 → ∀ σ : St, MV l G y_Law_readSum prog_5_method_10_code 5 kr [.ref (G.1 59), .ref (G.1 1), .int (op + 1)] σ (rec σ)) : MV l G y_Law_readPart prog_5_method_12_code 4 (kr + 9) [.ref (G.1 59), .ref (G.1 1), .int op] σ (lpF rec op σ) := by
  refine MV.of hG (by decide) (Nat.le_of_ble_eq_true rfl) (fun X hx hq => ?_)
  show J l G X 4 σ 0 [(0, .ref (G.1 59)), (1, .ref (G.1 1)), (2, .int op)] []
  refine j_aload_n hx d_Law_readPart_0 rfl 1 rfl ?_
  refine j_callVi hx (c_Tape_fine hG σ) mo_Tape_fine mv_Tape_fine t_807 (by omega) rfl (by decide) (sh_1 _ _) rfl rfl (Nat.le_of_ble_eq_true rfl) d_Law_readPart_1 ?_
  refine j_if_ne (tgt := 8) hx d_Law_readPart_4 (by decide) (fun zc4 => ?_) (fun zc4 => ?_)
  · skip
    refine j_aload_n hx d_Law_readPart_8 rfl 1 rfl ?_
    refine j_callVi hx (c_Tape_digitNext hG σ) mo_Tape_digitNext mv_Tape_digitNext t_808 (by omega) rfl (by decide) (sh_1 _ _) rfl rfl (Nat.le_of_ble_eq_true rfl) d_Law_readPart_9 ?_
    refine j_if_eq (tgt := 30) hx d_Law_readPart_12 (by decide) (fun zc12 => ?_) (fun zc12 => ?_)
    · skip
      refine j_aload_n hx d_Law_readPart_30 rfl 1 rfl ?_
      refine j_bipush (v := 40) hx d_Law_readPart_31 (by decide) ?_
      refine j_callVi hx (c_Tape_take hG σ 40) mo_Tape_take mv_Tape_take t_810 (by omega) rfl (by decide) (sh_1 _ _) rfl rfl (Nat.le_of_ble_eq_true rfl) d_Law_readPart_33 ?_
      refine j_if_eq (tgt := 66) hx d_Law_readPart_36 (by decide) (fun zc36 => ?_) (fun zc36 => ?_)
      · skip
        obtain ⟨s9_1, eg_1⟩ : ∃ z : St, z = tkS σ 40 := ⟨_, rfl⟩
        refine J.to (σ' := s9_1) (by rw [eg_1]; first | done | rfl) rfl ?_
        refine j_aload_n hx d_Law_readPart_66 rfl 1 rfl ?_
        refine j_ldcs2 hx d_Law_readPart_67 ?_
        refine j_callVi hx (c_Tape_wordOf hG s9_1 2 (by decide)) mo_Tape_wordOf mv_Tape_wordOf t_817 (by omega) rfl (by decide) (sh_1 _ _) rfl rfl (Nat.le_of_ble_eq_true rfl) d_Law_readPart_69 ?_
        refine j_istore_n hx [(3, .int (woI s9_1 2)), (0, .ref (G.1 59)), (1, .ref (G.1 1)), (2, .int op)] d_Law_readPart_72 rfl (by decide) rfl ?_
        obtain ⟨s9_2, eg_2⟩ : ∃ z : St, z = woS s9_1 2 := ⟨_, rfl⟩
        refine J.to (σ' := s9_2) (by rw [eg_2]; first | done | rfl) rfl ?_
        refine j_iload_n hx d_Law_readPart_73 rfl 0 rfl ?_
        refine j_bipush (v := 9) hx d_Law_readPart_74 (by decide) ?_
        refine j_icmp_lt (tgt := 133) hx d_Law_readPart_76 (by decide) (fun zc76 => ?_) (fun zc76 => ?_)
        · skip
          refine j_aload_n hx d_Law_readPart_133 rfl 1 rfl ?_
          refine j_iload_n hx d_Law_readPart_134 rfl 0 rfl ?_
          refine j_iconst (v := 0) hx d_Law_readPart_135 (by decide) ?_
          refine j_callVv hx (c_Law_emit hG isLaw_59 s9_2 (woI s9_1 2) 0) mo_Law_emit mv_Law_emit t_151 (by omega) rfl (by decide) (sh_59 _ _) rfl rfl (Nat.le_of_ble_eq_true rfl) d_Law_readPart_136 ?_
          exact j_vret hx hq d_Law_readPart_139 (by first | (first | exact (lpF_0 zc4).symm | exact (lpF_1 zc4 zc12).symm | (rw [lpF_2 zc4 zc12 zc36, ← eg_1]; unfold lpB; rw [if_pos zc44]; done) | (rw [lpF_2 zc4 zc12 zc36, ← eg_1]; unfold lpB; rw [if_neg zc44]; rfl) | (rw [lpF_3 zc4 zc12 zc36, ← eg_1]; unfold lpN; rw [if_pos zc76, ← eg_2]; done) | (rw [lpF_3 zc4 zc12 zc36, ← eg_1]; unfold lpN; rw [if_neg zc76, ← eg_2, if_pos zc84]; done) | (rw [lpF_3 zc4 zc12 zc36, ← eg_1]; unfold lpN; rw [if_neg zc76, ← eg_2, if_neg zc84, eg_6, eg_5, eg_4, eg_3]; rfl)) | fail)
        · skip
          refine j_aload_n hx d_Law_readPart_79 rfl 2 rfl ?_
          refine j_iload_n hx d_Law_readPart_80 rfl 3 rfl ?_
          refine j_callSi hx (c_Law_mayOpen hG s9_2 op) mo_Law_mayOpen t_812 t_811 (by omega) rfl rfl (Nat.le_of_ble_eq_true rfl) d_Law_readPart_81 ?_
          refine j_if_eq (tgt := 133) hx d_Law_readPart_84 (by decide) (fun zc84 => ?_) (fun zc84 => ?_)
          · skip
            refine j_aload_n hx d_Law_readPart_133 rfl 1 rfl ?_
            refine j_iload_n hx d_Law_readPart_134 rfl 0 rfl ?_
            refine j_iconst (v := 0) hx d_Law_readPart_135 (by decide) ?_
            refine j_callVv hx (c_Law_emit hG isLaw_59 (moS s9_2 op) (woI s9_1 2) 0) mo_Law_emit mv_Law_emit t_151 (by omega) rfl (by decide) (sh_59 _ _) rfl rfl (Nat.le_of_ble_eq_true rfl) d_Law_readPart_136 ?_
            exact j_vret hx hq d_Law_readPart_139 (by first | (first | exact (lpF_0 zc4).symm | exact (lpF_1 zc4 zc12).symm | (rw [lpF_2 zc4 zc12 zc36, ← eg_1]; unfold lpB; rw [if_pos zc44]; done) | (rw [lpF_2 zc4 zc12 zc36, ← eg_1]; unfold lpB; rw [if_neg zc44]; rfl) | (rw [lpF_3 zc4 zc12 zc36, ← eg_1]; unfold lpN; rw [if_pos zc76, ← eg_2]; done) | (rw [lpF_3 zc4 zc12 zc36, ← eg_1]; unfold lpN; rw [if_neg zc76, ← eg_2, if_pos zc84]; done) | (rw [lpF_3 zc4 zc12 zc36, ← eg_1]; unfold lpN; rw [if_neg zc76, ← eg_2, if_neg zc84, eg_6, eg_5, eg_4, eg_3]; rfl)) | fail)
          · skip
            refine j_aload_n hx d_Law_readPart_87 rfl 2 rfl ?_
            refine j_aload_n hx d_Law_readPart_88 rfl 2 rfl ?_
            refine j_bipush (v := 91) hx d_Law_readPart_89 (by decide) ?_
            refine j_callVi hx (c_Tape_take hG (moS s9_2 op) 91) mo_Tape_take mv_Tape_take t_810 (by omega) rfl (by decide) (sh_1 _ _) rfl rfl (Nat.le_of_ble_eq_true rfl) d_Law_readPart_91 ?_
            refine j_callVv hx (c_Tape_require hG (tkS (moS s9_2 op) 91) (b2 (tkP (moS s9_2 op) 91))) mo_Tape_require mv_Tape_require t_815 (by omega) rfl (by decide) (sh_1 _ _) rfl rfl (Nat.le_of_ble_eq_true rfl) d_Law_readPart_94 ?_
            obtain ⟨s9_3, eg_3⟩ : ∃ z : St, z = tkR (moS s9_2 op) 91 := ⟨_, rfl⟩
            refine J.to (σ' := s9_3) (by rw [eg_3]; first | done | rfl) rfl ?_
            refine j_aload_n hx d_Law_readPart_97 rfl 1 rfl ?_
            refine j_aload_n hx d_Law_readPart_98 rfl 2 rfl ?_
            refine j_iload_n hx d_Law_readPart_99 rfl 3 rfl ?_
            refine j_iconst (v := 1) hx d_Law_readPart_100 (by decide) ?_
            refine j_iadd hx d_Law_readPart_101 ?_
            refine j_callVv hx (hrec (moS_lt zc84) s9_3) mo_Law_readSum mv_Law_readSum t_795 (by omega) rfl (by decide) (sh_59 _ _) rfl rfl (Nat.le_of_ble_eq_true rfl) d_Law_readPart_102 ?_
            obtain ⟨s9_4, eg_4⟩ : ∃ z : St, z = rec s9_3 := ⟨_, rfl⟩
            refine J.to (σ' := s9_4) (by rw [eg_4]; first | done | rfl) rfl ?_
            refine j_aload_n hx d_Law_readPart_105 rfl 2 rfl ?_
            refine j_aload_n hx d_Law_readPart_106 rfl 2 rfl ?_
            refine j_bipush (v := 44) hx d_Law_readPart_107 (by decide) ?_
            refine j_callVi hx (c_Tape_take hG s9_4 44) mo_Tape_take mv_Tape_take t_810 (by omega) rfl (by decide) (sh_1 _ _) rfl rfl (Nat.le_of_ble_eq_true rfl) d_Law_readPart_109 ?_
            refine j_callVv hx (c_Tape_require hG (tkS s9_4 44) (b2 (tkP s9_4 44))) mo_Tape_require mv_Tape_require t_815 (by omega) rfl (by decide) (sh_1 _ _) rfl rfl (Nat.le_of_ble_eq_true rfl) d_Law_readPart_112 ?_
            obtain ⟨s9_5, eg_5⟩ : ∃ z : St, z = tkR s9_4 44 := ⟨_, rfl⟩
            refine J.to (σ' := s9_5) (by rw [eg_5]; first | done | rfl) rfl ?_
            refine j_aload_n hx d_Law_readPart_115 rfl 1 rfl ?_
            refine j_aload_n hx d_Law_readPart_116 rfl 2 rfl ?_
            refine j_iload_n hx d_Law_readPart_117 rfl 3 rfl ?_
            refine j_iconst (v := 1) hx d_Law_readPart_118 (by decide) ?_
            refine j_iadd hx d_Law_readPart_119 ?_
            refine j_callVv hx (hrec (moS_lt zc84) s9_5) mo_Law_readSum mv_Law_readSum t_795 (by omega) rfl (by decide) (sh_59 _ _) rfl rfl (Nat.le_of_ble_eq_true rfl) d_Law_readPart_120 ?_
            obtain ⟨s9_6, eg_6⟩ : ∃ z : St, z = rec s9_5 := ⟨_, rfl⟩
            refine J.to (σ' := s9_6) (by rw [eg_6]; first | done | rfl) rfl ?_
            refine j_aload_n hx d_Law_readPart_123 rfl 2 rfl ?_
            refine j_aload_n hx d_Law_readPart_124 rfl 2 rfl ?_
            refine j_bipush (v := 93) hx d_Law_readPart_125 (by decide) ?_
            refine j_callVi hx (c_Tape_take hG s9_6 93) mo_Tape_take mv_Tape_take t_810 (by omega) rfl (by decide) (sh_1 _ _) rfl rfl (Nat.le_of_ble_eq_true rfl) d_Law_readPart_127 ?_
            refine j_callVv hx (c_Tape_require hG (tkS s9_6 93) (b2 (tkP s9_6 93))) mo_Tape_require mv_Tape_require t_815 (by omega) rfl (by decide) (sh_1 _ _) rfl rfl (Nat.le_of_ble_eq_true rfl) d_Law_readPart_130 ?_
            refine j_aload_n hx d_Law_readPart_133 rfl 1 rfl ?_
            refine j_iload_n hx d_Law_readPart_134 rfl 0 rfl ?_
            refine j_iconst (v := 0) hx d_Law_readPart_135 (by decide) ?_
            refine j_callVv hx (c_Law_emit hG isLaw_59 (rq (tkS s9_6 93) (b2 (tkP s9_6 93))) (woI s9_1 2) 0) mo_Law_emit mv_Law_emit t_151 (by omega) rfl (by decide) (sh_59 _ _) rfl rfl (Nat.le_of_ble_eq_true rfl) d_Law_readPart_136 ?_
            exact j_vret hx hq d_Law_readPart_139 (by first | (first | exact (lpF_0 zc4).symm | exact (lpF_1 zc4 zc12).symm | (rw [lpF_2 zc4 zc12 zc36, ← eg_1]; unfold lpB; rw [if_pos zc44]; done) | (rw [lpF_2 zc4 zc12 zc36, ← eg_1]; unfold lpB; rw [if_neg zc44]; rfl) | (rw [lpF_3 zc4 zc12 zc36, ← eg_1]; unfold lpN; rw [if_pos zc76, ← eg_2]; done) | (rw [lpF_3 zc4 zc12 zc36, ← eg_1]; unfold lpN; rw [if_neg zc76, ← eg_2, if_pos zc84]; done) | (rw [lpF_3 zc4 zc12 zc36, ← eg_1]; unfold lpN; rw [if_neg zc76, ← eg_2, if_neg zc84, eg_6, eg_5, eg_4, eg_3]; rfl)) | fail)
      · skip
        obtain ⟨s9_1, eg_1⟩ : ∃ z : St, z = tkS σ 40 := ⟨_, rfl⟩
        refine J.to (σ' := s9_1) (by rw [eg_1]; first | done | rfl) rfl ?_
        refine j_aload_n hx d_Law_readPart_39 rfl 1 rfl ?_
        refine j_iload_n hx d_Law_readPart_40 rfl 2 rfl ?_
        refine j_callSi hx (c_Law_mayOpen hG s9_1 op) mo_Law_mayOpen t_812 t_811 (by omega) rfl rfl (Nat.le_of_ble_eq_true rfl) d_Law_readPart_41 ?_
        refine j_if_eq (tgt := 65) hx d_Law_readPart_44 (by decide) (fun zc44 => ?_) (fun zc44 => ?_)
        · skip
          exact j_vret hx hq d_Law_readPart_65 (by first | (first | exact (lpF_0 zc4).symm | exact (lpF_1 zc4 zc12).symm | (rw [lpF_2 zc4 zc12 zc36, ← eg_1]; unfold lpB; rw [if_pos zc44]; done) | (rw [lpF_2 zc4 zc12 zc36, ← eg_1]; unfold lpB; rw [if_neg zc44]; rfl) | (rw [lpF_3 zc4 zc12 zc36, ← eg_1]; unfold lpN; rw [if_pos zc76, ← eg_2]; done) | (rw [lpF_3 zc4 zc12 zc36, ← eg_1]; unfold lpN; rw [if_neg zc76, ← eg_2, if_pos zc84]; done) | (rw [lpF_3 zc4 zc12 zc36, ← eg_1]; unfold lpN; rw [if_neg zc76, ← eg_2, if_neg zc84, eg_6, eg_5, eg_4, eg_3]; rfl)) | fail)
        · skip
          refine j_aload_n hx d_Law_readPart_47 rfl 0 rfl ?_
          refine j_aload_n hx d_Law_readPart_48 rfl 1 rfl ?_
          refine j_iload_n hx d_Law_readPart_49 rfl 2 rfl ?_
          refine j_iconst (v := 1) hx d_Law_readPart_50 (by decide) ?_
          refine j_iadd hx d_Law_readPart_51 ?_
          refine j_callVv hx (hrec (moS_lt zc44) (moS s9_1 op)) mo_Law_readSum mv_Law_readSum t_795 (by omega) rfl (by decide) (sh_59 _ _) rfl rfl (Nat.le_of_ble_eq_true rfl) d_Law_readPart_52 ?_
          refine j_aload_n hx d_Law_readPart_55 rfl 1 rfl ?_
          refine j_aload_n hx d_Law_readPart_56 rfl 1 rfl ?_
          refine j_bipush (v := 41) hx d_Law_readPart_57 (by decide) ?_
          refine j_callVi hx (c_Tape_take hG (rec (moS s9_1 op)) 41) mo_Tape_take mv_Tape_take t_810 (by omega) rfl (by decide) (sh_1 _ _) rfl rfl (Nat.le_of_ble_eq_true rfl) d_Law_readPart_59 ?_
          refine j_callVv hx (c_Tape_require hG (tkS (rec (moS s9_1 op)) 41) (b2 (tkP (rec (moS s9_1 op)) 41))) mo_Tape_require mv_Tape_require t_815 (by omega) rfl (by decide) (sh_1 _ _) rfl rfl (Nat.le_of_ble_eq_true rfl) d_Law_readPart_62 ?_
          exact j_vret hx hq d_Law_readPart_65 (by first | (first | exact (lpF_0 zc4).symm | exact (lpF_1 zc4 zc12).symm | (rw [lpF_2 zc4 zc12 zc36, ← eg_1]; unfold lpB; rw [if_pos zc44]; done) | (rw [lpF_2 zc4 zc12 zc36, ← eg_1]; unfold lpB; rw [if_neg zc44]; rfl) | (rw [lpF_3 zc4 zc12 zc36, ← eg_1]; unfold lpN; rw [if_pos zc76, ← eg_2]; done) | (rw [lpF_3 zc4 zc12 zc36, ← eg_1]; unfold lpN; rw [if_neg zc76, ← eg_2, if_pos zc84]; done) | (rw [lpF_3 zc4 zc12 zc36, ← eg_1]; unfold lpN; rw [if_neg zc76, ← eg_2, if_neg zc84, eg_6, eg_5, eg_4, eg_3]; rfl)) | fail)
    · skip
      refine j_aload_n hx d_Law_readPart_15 rfl 0 rfl ?_
      refine j_bipush (v := 11) hx d_Law_readPart_16 (by decide) ?_
      refine j_aload_n hx d_Law_readPart_18 rfl 1 rfl ?_
      refine j_iconst (v := 0) hx d_Law_readPart_19 (by decide) ?_
      refine j_sipush (v := 999) hx d_Law_readPart_20 (by decide) ?_
      refine j_callVi hx (c_Tape_numberIn hG σ 0 999) mo_Tape_numberIn mv_Tape_numberIn t_809 (by omega) rfl (by decide) (sh_1 _ _) rfl rfl (Nat.le_of_ble_eq_true rfl) d_Law_readPart_23 ?_
      refine j_callVv hx (c_Law_emit hG isLaw_59 (nuS σ 0 999) 11 (nuV (nu1 σ))) mo_Law_emit mv_Law_emit t_151 (by omega) rfl (by decide) (sh_59 _ _) rfl rfl (Nat.le_of_ble_eq_true rfl) d_Law_readPart_26 ?_
      exact j_vret hx hq d_Law_readPart_29 (by first | (first | exact (lpF_0 zc4).symm | exact (lpF_1 zc4 zc12).symm | (rw [lpF_2 zc4 zc12 zc36, ← eg_1]; unfold lpB; rw [if_pos zc44]; done) | (rw [lpF_2 zc4 zc12 zc36, ← eg_1]; unfold lpB; rw [if_neg zc44]; rfl) | (rw [lpF_3 zc4 zc12 zc36, ← eg_1]; unfold lpN; rw [if_pos zc76, ← eg_2]; done) | (rw [lpF_3 zc4 zc12 zc36, ← eg_1]; unfold lpN; rw [if_neg zc76, ← eg_2, if_pos zc84]; done) | (rw [lpF_3 zc4 zc12 zc36, ← eg_1]; unfold lpN; rw [if_neg zc76, ← eg_2, if_neg zc84, eg_6, eg_5, eg_4, eg_3]; rfl)) | fail)
  · skip
    exact j_vret hx hq d_Law_readPart_7 (by first | (first | exact (lpF_0 zc4).symm | exact (lpF_1 zc4 zc12).symm | (rw [lpF_2 zc4 zc12 zc36, ← eg_1]; unfold lpB; rw [if_pos zc44]; done) | (rw [lpF_2 zc4 zc12 zc36, ← eg_1]; unfold lpB; rw [if_neg zc44]; rfl) | (rw [lpF_3 zc4 zc12 zc36, ← eg_1]; unfold lpN; rw [if_pos zc76, ← eg_2]; done) | (rw [lpF_3 zc4 zc12 zc36, ← eg_1]; unfold lpN; rw [if_neg zc76, ← eg_2, if_pos zc84]; done) | (rw [lpF_3 zc4 zc12 zc36, ← eg_1]; unfold lpN; rw [if_neg zc76, ← eg_2, if_neg zc84, eg_6, eg_5, eg_4, eg_3]; rfl)) | fail)

set_option maxRecDepth 20000 in
set_option maxHeartbeats 4000000 in
theorem c_Law_readProduct {l : Launch} {G : Gz} (hG : zI G) (σ : St) (op : Int32) {kr : Nat} (rec : St → St) (hrec : op < 6 → ∀ σ : St, MV l G y_Law_readSum prog_5_method_10_code 5 kr [.ref (G.1 59), .ref (G.1 1), .int (op + 1)] σ (rec σ)) : MV l G y_Law_readProduct prog_5_method_11_code 5 (kr + 10) [.ref (G.1 59), .ref (G.1 1), .int op] σ (lqF rec op σ) := by
  refine MV.of hG (by decide) (Nat.le_of_ble_eq_true rfl) (fun X hx hq => ?_)
  show J l G X 5 σ 0 [(0, .ref (G.1 59)), (1, .ref (G.1 1)), (2, .int op)] []
  refine j_aload_n hx d_Law_readProduct_0 rfl 0 rfl ?_
  refine j_aload_n hx d_Law_readProduct_1 rfl 1 rfl ?_
  refine j_iload_n hx d_Law_readProduct_2 rfl 2 rfl ?_
  refine j_callVv hx (c_Law_readPart hG σ op rec hrec) mo_Law_readPart mv_Law_readPart t_803 (by omega) rfl (by decide) (sh_59 _ _) rfl rfl (Nat.le_of_ble_eq_true rfl) d_Law_readProduct_3 ?_
  obtain ⟨s9_1, eg_1⟩ : ∃ z : St, z = lpF rec op σ := ⟨_, rfl⟩
  refine J.to (σ' := s9_1) (by rw [eg_1]; first | done | rfl) rfl ?_
  refine j_iconst (v := 0) hx d_Law_readProduct_6 (by decide) ?_
  refine j_istore_n hx [(3, .int 0), (0, .ref (G.1 59)), (1, .ref (G.1 1)), (2, .int op)] d_Law_readProduct_7 rfl (by decide) rfl ?_
  have hl8 : ∀ (N9 : Nat) (i : Nat) (s : St), (i ≤ 150) → (opR sg3 (lpF rec op) (150 - i) s = opR sg3 (lpF rec op) 150 s9_1) → 150 - i = N9 → J l G X 5 s 8 [(0, .ref (G.1 59)), (1, .ref (G.1 1)), (2, .int op), (3, .int (nI i))] [] := by
    intro N9
    induction N9 using Nat.strongRecOn with
    | _ N9 ih8 =>
      intro i s hi_i hr hm8
      refine j_iload_n hx d_Law_readProduct_8 rfl 3 rfl ?_
      refine j_sipush (v := 150) hx d_Law_readProduct_9 (by decide) ?_
      refine j_icmp_ge (tgt := 93) hx d_Law_readProduct_12 (by decide) (fun zc12 => ?_) (fun zc12 => ?_)
      · skip
        obtain rfl := nt_end (n := 150) hi_i (by decide) zc12
        exact j_vret hx hq d_Law_readProduct_93 (by first | (rw [eg_1] at hr; first | exact (opR_end (N := 150)).symm.trans hr | exact (opR_stop zc19).symm.trans hr | exact (opR_none hlt8 zc19 (sg3_0 zc28 zc42 zc56)).symm.trans hr) | fail)
      · skip
        have hlt8 := nt_go (n := 150) hi_i (by decide) zc12
        refine j_aload_n hx d_Law_readProduct_15 rfl 1 rfl ?_
        refine j_callVi hx (c_Tape_fine hG s) mo_Tape_fine mv_Tape_fine t_807 (by omega) rfl (by decide) (sh_1 _ _) rfl rfl (Nat.le_of_ble_eq_true rfl) d_Law_readProduct_16 ?_
        refine j_if_eq (tgt := 93) hx d_Law_readProduct_19 (by decide) (fun zc19 => ?_) (fun zc19 => ?_)
        · skip
          exact j_vret hx hq d_Law_readProduct_93 (by first | (rw [eg_1] at hr; first | exact (opR_end (N := 150)).symm.trans hr | exact (opR_stop zc19).symm.trans hr | exact (opR_none hlt8 zc19 (sg3_0 zc28 zc42 zc56)).symm.trans hr) | fail)
        · skip
          refine j_aload_n hx d_Law_readProduct_22 rfl 1 rfl ?_
          refine j_bipush (v := 42) hx d_Law_readProduct_23 (by decide) ?_
          refine j_callVi hx (c_Tape_take hG s 42) mo_Tape_take mv_Tape_take t_810 (by omega) rfl (by decide) (sh_1 _ _) rfl rfl (Nat.le_of_ble_eq_true rfl) d_Law_readProduct_25 ?_
          refine j_if_eq (tgt := 36) hx d_Law_readProduct_28 (by decide) (fun zc28 => ?_) (fun zc28 => ?_)
          · skip
            refine j_aload_n hx d_Law_readProduct_36 rfl 1 rfl ?_
            refine j_bipush (v := 47) hx d_Law_readProduct_37 (by decide) ?_
            refine j_callVi hx (c_Tape_take hG (tkS s 42) 47) mo_Tape_take mv_Tape_take t_810 (by omega) rfl (by decide) (sh_1 _ _) rfl rfl (Nat.le_of_ble_eq_true rfl) d_Law_readProduct_39 ?_
            refine j_if_eq (tgt := 50) hx d_Law_readProduct_42 (by decide) (fun zc42 => ?_) (fun zc42 => ?_)
            · skip
              refine j_aload_n hx d_Law_readProduct_50 rfl 1 rfl ?_
              refine j_bipush (v := 37) hx d_Law_readProduct_51 (by decide) ?_
              refine j_callVi hx (c_Tape_take hG (tkS (tkS s 42) 47) 37) mo_Tape_take mv_Tape_take t_810 (by omega) rfl (by decide) (sh_1 _ _) rfl rfl (Nat.le_of_ble_eq_true rfl) d_Law_readProduct_53 ?_
              refine j_if_eq (tgt := 64) hx d_Law_readProduct_56 (by decide) (fun zc56 => ?_) (fun zc56 => ?_)
              · skip
                refine j_iconst (v := (-1)) hx d_Law_readProduct_64 (by decide) ?_
                refine j_istore hx [(4, .int ((-1))), (0, .ref (G.1 59)), (1, .ref (G.1 1)), (2, .int op), (3, .int (nI i))] d_Law_readProduct_65 (by decide) rfl ?_
                refine j_iload hx d_Law_readProduct_67 0 rfl ?_
                refine j_iconst (v := (-1)) hx d_Law_readProduct_69 (by decide) ?_
                refine j_icmp_ne (tgt := 74) hx d_Law_readProduct_70 (by decide) (fun zc70 => absurd rfl zc70) (fun _ => ?_)
                exact j_vret hx hq d_Law_readProduct_73 (by first | (rw [eg_1] at hr; first | exact (opR_end (N := 150)).symm.trans hr | exact (opR_stop zc19).symm.trans hr | exact (opR_none hlt8 zc19 (sg3_0 zc28 zc42 zc56)).symm.trans hr) | fail)
              · skip
                refine j_bipush (v := 16) hx d_Law_readProduct_59 (by decide) ?_
                refine j_goto (tgt := 65) hx d_Law_readProduct_61 (by decide) ?_
                refine j_istore hx [(4, .int 16), (0, .ref (G.1 59)), (1, .ref (G.1 1)), (2, .int op), (3, .int (nI i))] d_Law_readProduct_65 (by decide) rfl ?_
                refine j_iload hx d_Law_readProduct_67 0 rfl ?_
                refine j_iconst (v := (-1)) hx d_Law_readProduct_69 (by decide) ?_
                refine j_icmp_ne (tgt := 74) hx d_Law_readProduct_70 (by decide) (fun _ => ?_) (fun zc70 => absurd zc70 (by decide))
                refine j_aload_n hx d_Law_readProduct_74 rfl 1 rfl ?_
                refine j_aload_n hx d_Law_readProduct_75 rfl 2 rfl ?_
                refine j_iload_n hx d_Law_readProduct_76 rfl 3 rfl ?_
                refine j_callVv hx (c_Law_readPart hG (tkS (tkS (tkS s 42) 47) 37) op rec hrec) mo_Law_readPart mv_Law_readPart t_803 (by omega) rfl (by decide) (sh_59 _ _) rfl rfl (Nat.le_of_ble_eq_true rfl) d_Law_readProduct_77 ?_
                refine j_aload_n hx d_Law_readProduct_80 rfl 1 rfl ?_
                refine j_iload hx d_Law_readProduct_81 0 rfl ?_
                refine j_iconst (v := 0) hx d_Law_readProduct_83 (by decide) ?_
                refine j_callVv hx (c_Law_emit hG isLaw_59 (lpF rec op (tkS (tkS (tkS s 42) 47) 37)) 16 0) mo_Law_emit mv_Law_emit t_151 (by omega) rfl (by decide) (sh_59 _ _) rfl rfl (Nat.le_of_ble_eq_true rfl) d_Law_readProduct_84 ?_
                refine j_iinc hx [(3, .int ((nI i) + 1)), (4, .int 16), (0, .ref (G.1 59)), (1, .ref (G.1 1)), (2, .int op)] d_Law_readProduct_87 4 rfl rfl (by decide) rfl ?_
                refine j_goto (tgt := 8) hx d_Law_readProduct_90 (by decide) ?_
                refine J.lsub (ls' := [(0, .ref (G.1 59)), (1, .ref (G.1 1)), (2, .int op), (3, .int ((nI i) + 1))]) [2, 3, 4, 0] rfl ?_
                refine J.to ?_ ?_ (ih8 _ ?_ (i + 1) (emt (lpF rec op (tkS (tkS (tkS s 42) 47) 37)) 59 16 0) hlt8 (by first | exact (opR_go hlt8 zc19 (sg3_1 zc28) (by decide)).symm.trans hr | exact (opR_go hlt8 zc19 (sg3_2 zc28 zc42) (by decide)).symm.trans hr | exact (opR_go hlt8 zc19 (sg3_3 zc28 zc42 zc56) (by decide)).symm.trans hr | fail) rfl)
                · first | (rfl) | fail
                · first | (simp only [nI_s]) | fail
                · first | (omega) | fail
            · skip
              refine j_bipush (v := 15) hx d_Law_readProduct_45 (by decide) ?_
              refine j_goto (tgt := 65) hx d_Law_readProduct_47 (by decide) ?_
              refine j_istore hx [(4, .int 15), (0, .ref (G.1 59)), (1, .ref (G.1 1)), (2, .int op), (3, .int (nI i))] d_Law_readProduct_65 (by decide) rfl ?_
              refine j_iload hx d_Law_readProduct_67 0 rfl ?_
              refine j_iconst (v := (-1)) hx d_Law_readProduct_69 (by decide) ?_
              refine j_icmp_ne (tgt := 74) hx d_Law_readProduct_70 (by decide) (fun _ => ?_) (fun zc70 => absurd zc70 (by decide))
              refine j_aload_n hx d_Law_readProduct_74 rfl 1 rfl ?_
              refine j_aload_n hx d_Law_readProduct_75 rfl 2 rfl ?_
              refine j_iload_n hx d_Law_readProduct_76 rfl 3 rfl ?_
              refine j_callVv hx (c_Law_readPart hG (tkS (tkS s 42) 47) op rec hrec) mo_Law_readPart mv_Law_readPart t_803 (by omega) rfl (by decide) (sh_59 _ _) rfl rfl (Nat.le_of_ble_eq_true rfl) d_Law_readProduct_77 ?_
              refine j_aload_n hx d_Law_readProduct_80 rfl 1 rfl ?_
              refine j_iload hx d_Law_readProduct_81 0 rfl ?_
              refine j_iconst (v := 0) hx d_Law_readProduct_83 (by decide) ?_
              refine j_callVv hx (c_Law_emit hG isLaw_59 (lpF rec op (tkS (tkS s 42) 47)) 15 0) mo_Law_emit mv_Law_emit t_151 (by omega) rfl (by decide) (sh_59 _ _) rfl rfl (Nat.le_of_ble_eq_true rfl) d_Law_readProduct_84 ?_
              refine j_iinc hx [(3, .int ((nI i) + 1)), (4, .int 15), (0, .ref (G.1 59)), (1, .ref (G.1 1)), (2, .int op)] d_Law_readProduct_87 4 rfl rfl (by decide) rfl ?_
              refine j_goto (tgt := 8) hx d_Law_readProduct_90 (by decide) ?_
              refine J.lsub (ls' := [(0, .ref (G.1 59)), (1, .ref (G.1 1)), (2, .int op), (3, .int ((nI i) + 1))]) [2, 3, 4, 0] rfl ?_
              refine J.to ?_ ?_ (ih8 _ ?_ (i + 1) (emt (lpF rec op (tkS (tkS s 42) 47)) 59 15 0) hlt8 (by first | exact (opR_go hlt8 zc19 (sg3_1 zc28) (by decide)).symm.trans hr | exact (opR_go hlt8 zc19 (sg3_2 zc28 zc42) (by decide)).symm.trans hr | exact (opR_go hlt8 zc19 (sg3_3 zc28 zc42 zc56) (by decide)).symm.trans hr | fail) rfl)
              · first | (rfl) | fail
              · first | (simp only [nI_s]) | fail
              · first | (omega) | fail
          · skip
            refine j_bipush (v := 14) hx d_Law_readProduct_31 (by decide) ?_
            refine j_goto (tgt := 65) hx d_Law_readProduct_33 (by decide) ?_
            refine j_istore hx [(4, .int 14), (0, .ref (G.1 59)), (1, .ref (G.1 1)), (2, .int op), (3, .int (nI i))] d_Law_readProduct_65 (by decide) rfl ?_
            refine j_iload hx d_Law_readProduct_67 0 rfl ?_
            refine j_iconst (v := (-1)) hx d_Law_readProduct_69 (by decide) ?_
            refine j_icmp_ne (tgt := 74) hx d_Law_readProduct_70 (by decide) (fun _ => ?_) (fun zc70 => absurd zc70 (by decide))
            refine j_aload_n hx d_Law_readProduct_74 rfl 1 rfl ?_
            refine j_aload_n hx d_Law_readProduct_75 rfl 2 rfl ?_
            refine j_iload_n hx d_Law_readProduct_76 rfl 3 rfl ?_
            refine j_callVv hx (c_Law_readPart hG (tkS s 42) op rec hrec) mo_Law_readPart mv_Law_readPart t_803 (by omega) rfl (by decide) (sh_59 _ _) rfl rfl (Nat.le_of_ble_eq_true rfl) d_Law_readProduct_77 ?_
            refine j_aload_n hx d_Law_readProduct_80 rfl 1 rfl ?_
            refine j_iload hx d_Law_readProduct_81 0 rfl ?_
            refine j_iconst (v := 0) hx d_Law_readProduct_83 (by decide) ?_
            refine j_callVv hx (c_Law_emit hG isLaw_59 (lpF rec op (tkS s 42)) 14 0) mo_Law_emit mv_Law_emit t_151 (by omega) rfl (by decide) (sh_59 _ _) rfl rfl (Nat.le_of_ble_eq_true rfl) d_Law_readProduct_84 ?_
            refine j_iinc hx [(3, .int ((nI i) + 1)), (4, .int 14), (0, .ref (G.1 59)), (1, .ref (G.1 1)), (2, .int op)] d_Law_readProduct_87 4 rfl rfl (by decide) rfl ?_
            refine j_goto (tgt := 8) hx d_Law_readProduct_90 (by decide) ?_
            refine J.lsub (ls' := [(0, .ref (G.1 59)), (1, .ref (G.1 1)), (2, .int op), (3, .int ((nI i) + 1))]) [2, 3, 4, 0] rfl ?_
            refine J.to ?_ ?_ (ih8 _ ?_ (i + 1) (emt (lpF rec op (tkS s 42)) 59 14 0) hlt8 (by first | exact (opR_go hlt8 zc19 (sg3_1 zc28) (by decide)).symm.trans hr | exact (opR_go hlt8 zc19 (sg3_2 zc28 zc42) (by decide)).symm.trans hr | exact (opR_go hlt8 zc19 (sg3_3 zc28 zc42 zc56) (by decide)).symm.trans hr | fail) rfl)
            · first | (rfl) | fail
            · first | (simp only [nI_s]) | fail
            · first | (omega) | fail
  refine J.lsub (ls' := [(0, .ref (G.1 59)), (1, .ref (G.1 1)), (2, .int op), (3, .int 0)]) [1, 2, 3, 0] rfl ?_
  refine J.to ?_ ?_ (hl8 _ 0 s9_1 (Nat.zero_le _) rfl rfl)
  · first | (rfl) | fail
  · first | (rfl) | fail

set_option maxRecDepth 20000 in
set_option maxHeartbeats 4000000 in
theorem c_Law_readSum {l : Launch} {G : Gz} (hG : zI G) (σ : St) (op : Int32) {kr : Nat} (rec : St → St) (hrec : op < 6 → ∀ σ : St, MV l G y_Law_readSum prog_5_method_10_code 5 kr [.ref (G.1 59), .ref (G.1 1), .int (op + 1)] σ (rec σ)) : MV l G y_Law_readSum prog_5_method_10_code 5 (kr + 11) [.ref (G.1 59), .ref (G.1 1), .int op] σ (lsF rec op σ) := by
  refine MV.of hG (by decide) (Nat.le_of_ble_eq_true rfl) (fun X hx hq => ?_)
  show J l G X 5 σ 0 [(0, .ref (G.1 59)), (1, .ref (G.1 1)), (2, .int op)] []
  refine j_aload_n hx d_Law_readSum_0 rfl 0 rfl ?_
  refine j_aload_n hx d_Law_readSum_1 rfl 1 rfl ?_
  refine j_iload_n hx d_Law_readSum_2 rfl 2 rfl ?_
  refine j_callVv hx (c_Law_readProduct hG σ op rec hrec) mo_Law_readProduct mv_Law_readProduct t_799 (by omega) rfl (by decide) (sh_59 _ _) rfl rfl (Nat.le_of_ble_eq_true rfl) d_Law_readSum_3 ?_
  obtain ⟨s9_1, eg_1⟩ : ∃ z : St, z = lqF rec op σ := ⟨_, rfl⟩
  refine J.to (σ' := s9_1) (by rw [eg_1]; first | done | rfl) rfl ?_
  refine j_iconst (v := 0) hx d_Law_readSum_6 (by decide) ?_
  refine j_istore_n hx [(3, .int 0), (0, .ref (G.1 59)), (1, .ref (G.1 1)), (2, .int op)] d_Law_readSum_7 rfl (by decide) rfl ?_
  have hl8 : ∀ (N9 : Nat) (i : Nat) (s : St), (i ≤ 150) → (opR sg2 (lqF rec op) (150 - i) s = opR sg2 (lqF rec op) 150 s9_1) → 150 - i = N9 → J l G X 5 s 8 [(0, .ref (G.1 59)), (1, .ref (G.1 1)), (2, .int op), (3, .int (nI i))] [] := by
    intro N9
    induction N9 using Nat.strongRecOn with
    | _ N9 ih8 =>
      intro i s hi_i hr hm8
      refine j_iload_n hx d_Law_readSum_8 rfl 3 rfl ?_
      refine j_sipush (v := 150) hx d_Law_readSum_9 (by decide) ?_
      refine j_icmp_ge (tgt := 79) hx d_Law_readSum_12 (by decide) (fun zc12 => ?_) (fun zc12 => ?_)
      · skip
        obtain rfl := nt_end (n := 150) hi_i (by decide) zc12
        exact j_vret hx hq d_Law_readSum_79 (by first | (rw [eg_1] at hr; first | exact (opR_end (N := 150)).symm.trans hr | exact (opR_stop zc19).symm.trans hr | exact (opR_none hlt8 zc19 (sg2_0 zc28 zc42)).symm.trans hr) | fail)
      · skip
        have hlt8 := nt_go (n := 150) hi_i (by decide) zc12
        refine j_aload_n hx d_Law_readSum_15 rfl 1 rfl ?_
        refine j_callVi hx (c_Tape_fine hG s) mo_Tape_fine mv_Tape_fine t_807 (by omega) rfl (by decide) (sh_1 _ _) rfl rfl (Nat.le_of_ble_eq_true rfl) d_Law_readSum_16 ?_
        refine j_if_eq (tgt := 79) hx d_Law_readSum_19 (by decide) (fun zc19 => ?_) (fun zc19 => ?_)
        · skip
          exact j_vret hx hq d_Law_readSum_79 (by first | (rw [eg_1] at hr; first | exact (opR_end (N := 150)).symm.trans hr | exact (opR_stop zc19).symm.trans hr | exact (opR_none hlt8 zc19 (sg2_0 zc28 zc42)).symm.trans hr) | fail)
        · skip
          refine j_aload_n hx d_Law_readSum_22 rfl 1 rfl ?_
          refine j_bipush (v := 43) hx d_Law_readSum_23 (by decide) ?_
          refine j_callVi hx (c_Tape_take hG s 43) mo_Tape_take mv_Tape_take t_810 (by omega) rfl (by decide) (sh_1 _ _) rfl rfl (Nat.le_of_ble_eq_true rfl) d_Law_readSum_25 ?_
          refine j_if_eq (tgt := 36) hx d_Law_readSum_28 (by decide) (fun zc28 => ?_) (fun zc28 => ?_)
          · skip
            refine j_aload_n hx d_Law_readSum_36 rfl 1 rfl ?_
            refine j_bipush (v := 45) hx d_Law_readSum_37 (by decide) ?_
            refine j_callVi hx (c_Tape_take hG (tkS s 43) 45) mo_Tape_take mv_Tape_take t_810 (by omega) rfl (by decide) (sh_1 _ _) rfl rfl (Nat.le_of_ble_eq_true rfl) d_Law_readSum_39 ?_
            refine j_if_eq (tgt := 50) hx d_Law_readSum_42 (by decide) (fun zc42 => ?_) (fun zc42 => ?_)
            · skip
              refine j_iconst (v := (-1)) hx d_Law_readSum_50 (by decide) ?_
              refine j_istore hx [(4, .int ((-1))), (0, .ref (G.1 59)), (1, .ref (G.1 1)), (2, .int op), (3, .int (nI i))] d_Law_readSum_51 (by decide) rfl ?_
              refine j_iload hx d_Law_readSum_53 0 rfl ?_
              refine j_iconst (v := (-1)) hx d_Law_readSum_55 (by decide) ?_
              refine j_icmp_ne (tgt := 60) hx d_Law_readSum_56 (by decide) (fun zc56 => absurd rfl zc56) (fun _ => ?_)
              exact j_vret hx hq d_Law_readSum_59 (by first | (rw [eg_1] at hr; first | exact (opR_end (N := 150)).symm.trans hr | exact (opR_stop zc19).symm.trans hr | exact (opR_none hlt8 zc19 (sg2_0 zc28 zc42)).symm.trans hr) | fail)
            · skip
              refine j_bipush (v := 13) hx d_Law_readSum_45 (by decide) ?_
              refine j_goto (tgt := 51) hx d_Law_readSum_47 (by decide) ?_
              refine j_istore hx [(4, .int 13), (0, .ref (G.1 59)), (1, .ref (G.1 1)), (2, .int op), (3, .int (nI i))] d_Law_readSum_51 (by decide) rfl ?_
              refine j_iload hx d_Law_readSum_53 0 rfl ?_
              refine j_iconst (v := (-1)) hx d_Law_readSum_55 (by decide) ?_
              refine j_icmp_ne (tgt := 60) hx d_Law_readSum_56 (by decide) (fun _ => ?_) (fun zc56 => absurd zc56 (by decide))
              refine j_aload_n hx d_Law_readSum_60 rfl 1 rfl ?_
              refine j_aload_n hx d_Law_readSum_61 rfl 2 rfl ?_
              refine j_iload_n hx d_Law_readSum_62 rfl 3 rfl ?_
              refine j_callVv hx (c_Law_readProduct hG (tkS (tkS s 43) 45) op rec hrec) mo_Law_readProduct mv_Law_readProduct t_799 (by omega) rfl (by decide) (sh_59 _ _) rfl rfl (Nat.le_of_ble_eq_true rfl) d_Law_readSum_63 ?_
              refine j_aload_n hx d_Law_readSum_66 rfl 1 rfl ?_
              refine j_iload hx d_Law_readSum_67 0 rfl ?_
              refine j_iconst (v := 0) hx d_Law_readSum_69 (by decide) ?_
              refine j_callVv hx (c_Law_emit hG isLaw_59 (lqF rec op (tkS (tkS s 43) 45)) 13 0) mo_Law_emit mv_Law_emit t_151 (by omega) rfl (by decide) (sh_59 _ _) rfl rfl (Nat.le_of_ble_eq_true rfl) d_Law_readSum_70 ?_
              refine j_iinc hx [(3, .int ((nI i) + 1)), (4, .int 13), (0, .ref (G.1 59)), (1, .ref (G.1 1)), (2, .int op)] d_Law_readSum_73 4 rfl rfl (by decide) rfl ?_
              refine j_goto (tgt := 8) hx d_Law_readSum_76 (by decide) ?_
              refine J.lsub (ls' := [(0, .ref (G.1 59)), (1, .ref (G.1 1)), (2, .int op), (3, .int ((nI i) + 1))]) [2, 3, 4, 0] rfl ?_
              refine J.to ?_ ?_ (ih8 _ ?_ (i + 1) (emt (lqF rec op (tkS (tkS s 43) 45)) 59 13 0) hlt8 (by first | exact (opR_go hlt8 zc19 (sg2_1 zc28) (by decide)).symm.trans hr | exact (opR_go hlt8 zc19 (sg2_2 zc28 zc42) (by decide)).symm.trans hr | fail) rfl)
              · first | (rfl) | fail
              · first | (simp only [nI_s]) | fail
              · first | (omega) | fail
          · skip
            refine j_bipush (v := 12) hx d_Law_readSum_31 (by decide) ?_
            refine j_goto (tgt := 51) hx d_Law_readSum_33 (by decide) ?_
            refine j_istore hx [(4, .int 12), (0, .ref (G.1 59)), (1, .ref (G.1 1)), (2, .int op), (3, .int (nI i))] d_Law_readSum_51 (by decide) rfl ?_
            refine j_iload hx d_Law_readSum_53 0 rfl ?_
            refine j_iconst (v := (-1)) hx d_Law_readSum_55 (by decide) ?_
            refine j_icmp_ne (tgt := 60) hx d_Law_readSum_56 (by decide) (fun _ => ?_) (fun zc56 => absurd zc56 (by decide))
            refine j_aload_n hx d_Law_readSum_60 rfl 1 rfl ?_
            refine j_aload_n hx d_Law_readSum_61 rfl 2 rfl ?_
            refine j_iload_n hx d_Law_readSum_62 rfl 3 rfl ?_
            refine j_callVv hx (c_Law_readProduct hG (tkS s 43) op rec hrec) mo_Law_readProduct mv_Law_readProduct t_799 (by omega) rfl (by decide) (sh_59 _ _) rfl rfl (Nat.le_of_ble_eq_true rfl) d_Law_readSum_63 ?_
            refine j_aload_n hx d_Law_readSum_66 rfl 1 rfl ?_
            refine j_iload hx d_Law_readSum_67 0 rfl ?_
            refine j_iconst (v := 0) hx d_Law_readSum_69 (by decide) ?_
            refine j_callVv hx (c_Law_emit hG isLaw_59 (lqF rec op (tkS s 43)) 12 0) mo_Law_emit mv_Law_emit t_151 (by omega) rfl (by decide) (sh_59 _ _) rfl rfl (Nat.le_of_ble_eq_true rfl) d_Law_readSum_70 ?_
            refine j_iinc hx [(3, .int ((nI i) + 1)), (4, .int 12), (0, .ref (G.1 59)), (1, .ref (G.1 1)), (2, .int op)] d_Law_readSum_73 4 rfl rfl (by decide) rfl ?_
            refine j_goto (tgt := 8) hx d_Law_readSum_76 (by decide) ?_
            refine J.lsub (ls' := [(0, .ref (G.1 59)), (1, .ref (G.1 1)), (2, .int op), (3, .int ((nI i) + 1))]) [2, 3, 4, 0] rfl ?_
            refine J.to ?_ ?_ (ih8 _ ?_ (i + 1) (emt (lqF rec op (tkS s 43)) 59 12 0) hlt8 (by first | exact (opR_go hlt8 zc19 (sg2_1 zc28) (by decide)).symm.trans hr | exact (opR_go hlt8 zc19 (sg2_2 zc28 zc42) (by decide)).symm.trans hr | fail) rfl)
            · first | (rfl) | fail
            · first | (simp only [nI_s]) | fail
            · first | (omega) | fail
  refine J.lsub (ls' := [(0, .ref (G.1 59)), (1, .ref (G.1 1)), (2, .int op), (3, .int 0)]) [1, 2, 3, 0] rfl ?_
  refine J.to ?_ ?_ (hl8 _ 0 s9_1 (Nat.zero_le _) rfl rfl)
  · first | (rfl) | fail
  · first | (rfl) | fail

theorem c_Law_readSumN {l : Launch} {G : Gz} (hG : zI G) : ∀ (n : Nat) (op : Int32), op = nI (6 - n) → n ≤ 6 → ∀ σ : St, MV l G y_Law_readSum prog_5_method_10_code 5 (18 + 11 * n) [.ref (G.1 59), .ref (G.1 1), .int op] σ (lsN n op σ) := by
  intro n
  induction n with
  | zero =>
    intro op hop _ σ
    exact c_Law_readSum hG σ op (kr := 7) (fun s => s) (fun h => absurd h (by rw [hop]; decide))
  | succ n ih =>
    intro op hop hn σ
    have h := c_Law_readSum hG σ op (kr := 18 + 11 * n) (lsN n (op + 1)) (fun _ => ih (op + 1) (by rw [hop, nI_s]; congr 1; omega) (by omega))
    rw [show 18 + 11 * (n + 1) = 18 + 11 * n + 11 by omega]
    exact h

set_option maxRecDepth 20000 in
set_option maxHeartbeats 4000000 in
theorem c_Law_readFrom {l : Launch} {G : Gz} (hG : zI G) (σ : St) : MV l G y_Law_readFrom prog_5_method_8_code 2 85 [.ref (G.1 59), .ref (G.1 1)] σ (lwR σ) := by
  refine MV.of hG (by decide) (Nat.le_of_ble_eq_true rfl) (fun X hx hq => ?_)
  show J l G X 2 σ 0 [(0, .ref (G.1 59)), (1, .ref (G.1 1))] []
  refine j_aload_n hx d_Law_readFrom_0 rfl 0 rfl ?_
  refine j_iconst (v := 0) hx d_Law_readFrom_1 (by decide) ?_
  refine j_put hx ck_Law 4 (by decide) t_163 (by decide) (sh_59 _ _) rfl (Nat.le_of_ble_eq_true rfl) (sh_59 _ _) d_Law_readFrom_2 ?_
  refine j_aload_n hx d_Law_readFrom_5 rfl 0 rfl ?_
  refine j_aload_n hx d_Law_readFrom_6 rfl 1 rfl ?_
  refine j_iconst (v := 0) hx d_Law_readFrom_7 (by decide) ?_
  refine j_callVv hx (c_Law_readSumN hG 6 0 rfl (by decide) (up σ 59 4 0)) mo_Law_readSum mv_Law_readSum t_795 (by decide) rfl (by decide) (sh_59 _ _) rfl rfl (Nat.le_of_ble_eq_true rfl) d_Law_readFrom_8 ?_
  refine j_aload_n hx d_Law_readFrom_11 rfl 1 rfl ?_
  refine j_aload_n hx d_Law_readFrom_12 rfl 1 rfl ?_
  refine j_callVi hx (c_Tape_ended hG (lsN 6 0 (up σ 59 4 0))) mo_Tape_ended mv_Tape_ended t_818 (by decide) rfl (by decide) (sh_1 _ _) rfl rfl (Nat.le_of_ble_eq_true rfl) d_Law_readFrom_13 ?_
  refine j_callVv hx (c_Tape_require hG (lsN 6 0 (up σ 59 4 0)) (b2 ((lsN 6 0 (up σ 59 4 0)) 1 2 ≤ (lsN 6 0 (up σ 59 4 0)) 1 3))) mo_Tape_require mv_Tape_require t_815 (by decide) rfl (by decide) (sh_1 _ _) rfl rfl (Nat.le_of_ble_eq_true rfl) d_Law_readFrom_16 ?_
  exact j_vret hx hq d_Law_readFrom_19 (by first | (rfl) | fail)
