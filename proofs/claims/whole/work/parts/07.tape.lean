theorem up_rd {σ : St} {o k : Nat} {v : Int32} : up σ o k v o k = v := by simp [up, upd]
theorem up_up {σ : St} {o k : Nat} {v w : Int32} : up (up σ o k v) o k w = up σ o k w := by
  funext o' k'; unfold up upd; by_cases h : o' = o
  · subst h; by_cases h2 : k' = k <;> simp [h2]
  · simp [h]
theorem up_k {σ : St} {o k k' : Nat} {v : Int32} (h : k' ≠ k) : up σ o k v o k' = σ o k' := by simp [up, upd, h]
theorem up_o {σ : St} {o o' k : Nat} {v : Int32} (h : o' ≠ o) : up σ o k v o' = σ o' := by simp [up, h]
theorem up_id {σ : St} {o k : Nat} : up σ o k (σ o k) = σ := by
  funext o' k'; unfold up upd; by_cases h : o' = o
  · subst h; by_cases h2 : k' = k <;> simp [h2]
  · simp [h]
/-- from p on, while P holds, at most to len -/
def rnn (len : Int32) (P : Int32 → Bool) : Nat → Int32 → Int32
  | 0, p => p
  | n + 1, p => if p < len ∧ P p = true then rnn len P n (p + 1) else p
def rn (len : Int32) (P : Int32 → Bool) (p : Int32) : Int32 := rnn len P (len.toInt - p.toInt).toNat p
theorem i_s1 {p q : Int32} (h : p < q) : (p + 1).toInt = p.toInt + 1 := by
  rw [i_lt] at h
  have h1 := i_hi q; have h2 := i_lo p
  rw [Int32.toInt_add]
  have : (1 : Int32).toInt = 1 := rfl
  rw [this]
  exact Int.bmod_eq_of_le (by omega) (by omega)
theorem rn_go {len : Int32} {P : Int32 → Bool} {p : Int32} (h : p < len) (hp : P p = true) : rn len P p = rn len P (p + 1) := by
  have h1 := i_s1 h
  have h2 := h; rw [i_lt] at h2
  unfold rn
  rw [show (len.toInt - p.toInt).toNat = (len.toInt - (p + 1).toInt).toNat + 1 by omega]
  rw [rnn, if_pos ⟨h, hp⟩]
theorem rn_stop {len : Int32} {P : Int32 → Bool} {p : Int32} (h : ¬ (p < len ∧ P p = true)) : rn len P p = p := by
  unfold rn
  cases hn : (len.toInt - p.toInt).toNat with
  | zero => rfl
  | succ n => rw [rnn, if_neg h]
/-- .. a value carried along -/
def rvn (len : Int32) (P : Int32 → Bool) (g : Int32 → Int32 → Int32) : Nat → Int32 → Int32 → Int32
  | 0, v, _ => v
  | n + 1, v, p => if p < len ∧ P p = true then rvn len P g n (g v p) (p + 1) else v
def rv (len : Int32) (P : Int32 → Bool) (g : Int32 → Int32 → Int32) (v p : Int32) : Int32 := rvn len P g (len.toInt - p.toInt).toNat v p
theorem rv_go {len : Int32} {P : Int32 → Bool} {g : Int32 → Int32 → Int32} {v p : Int32} (h : p < len) (hp : P p = true) : rv len P g v p = rv len P g (g v p) (p + 1) := by
  have h1 := i_s1 h
  have h2 := h; rw [i_lt] at h2
  unfold rv
  rw [show (len.toInt - p.toInt).toNat = (len.toInt - (p + 1).toInt).toNat + 1 by omega]
  rw [rvn, if_pos ⟨h, hp⟩]
theorem rv_stop {len : Int32} {P : Int32 → Bool} {g : Int32 → Int32 → Int32} {v p : Int32} (h : ¬ (p < len ∧ P p = true)) : rv len P g v p = v := by
  unfold rv
  cases hn : (len.toInt - p.toInt).toNat with
  | zero => rfl
  | succ n => rw [rvn, if_neg h]
theorem rn_dec {len p : Int32} {n : Nat} (h : p < len) (hm : (len.toInt - p.toInt).toNat = n) : (len.toInt - (p + 1).toInt).toNat < n := by
  have h1 := i_s1 h
  rw [i_lt] at h
  omega
theorem i_nle {x y : Int32} (h : ¬ x ≤ y) : y < x := by rw [i_le] at h; rw [i_lt]; omega
theorem i_nlt {x y : Int32} (h : ¬ x < y) : y ≤ x := by rw [i_lt] at h; rw [i_le]; omega
def isB (f : Nat → Int32) (p : Int32) : Bool := decide (rg f 600 p = 32)
def isD (f : Nat → Int32) (p : Int32) : Bool := decide (48 ≤ rg f 600 p ∧ rg f 600 p ≤ 57)
def isA (f : Nat → Int32) (p : Int32) : Bool := decide (97 ≤ rg f 600 p ∧ rg f 600 p ≤ 122)
/-! the tape: held 1, length 2, place 3, itemStart 4, faultKind 5, faultPlace 6; the bytes in object 3 -/
def tap (σ : St) (v sh : Int32) : St := up (rs σ 2 600 (σ 1 1) ((v.toUInt32 >>> (sh.toUInt32 &&& Int32.toUInt32 31)).toInt32 &&& 255)) 1 1 ((rs σ 2 600 (σ 1 1) ((v.toUInt32 >>> (sh.toUInt32 &&& Int32.toUInt32 31)).toInt32 &&& 255)) 1 1 + 1)
def mvt (σ : St) (b : Int32) : St := up σ 1 3 (rn (σ 1 2) (isB (σ 3)) b)
def opn (σ : St) (n : Int32) : St := mvt (up (up (up (up σ 1 2 n) 1 1 0) 1 5 0) 1 6 (-1)) 0
def bl (σ : St) (kind whr : Int32) : St := if σ 1 5 = 0 then up (up σ 1 5 kind) 1 6 whr else σ
def rq (σ : St) (came : Int32) : St := if came = 0 then bl σ 1 (σ 1 3) else σ
abbrev tkP (σ : St) (c : Int32) : Prop := σ 1 5 = 0 ∧ σ 1 3 < σ 1 2 ∧ rg (σ 3) 600 (σ 1 3) = c
def tkS (σ : St) (c : Int32) : St := if tkP σ c then mvt (up σ 1 4 (σ 1 3)) ((up σ 1 4 (σ 1 3)) 1 3 + 1) else σ
abbrev nxP (σ : St) (c : Int32) : Prop := σ 1 3 < σ 1 2 ∧ rg (σ 3) 600 (σ 1 3) = c
abbrev dnP (σ : St) : Prop := σ 1 3 < σ 1 2 ∧ 48 ≤ rg (σ 3) 600 (σ 1 3) ∧ rg (σ 3) 600 (σ 1 3) ≤ 57

theorem ns_len {len p : Int32} {Q : Prop} (h : len ≤ p) : ¬ (p < len ∧ Q) := fun z => by
  have := z.1; rw [i_lt] at this; rw [i_le] at h; omega
theorem nsB {f : Nat → Int32} {len p : Int32} (h : ¬ rg f 600 p = 32) : ¬ (p < len ∧ isB f p = true) := fun z => h (of_decide_eq_true z.2)
theorem nsD1 {f : Nat → Int32} {len p : Int32} (h : rg f 600 p < 48) : ¬ (p < len ∧ isD f p = true) := fun z => by
  have := (of_decide_eq_true z.2).1; rw [i_le] at this; rw [i_lt] at h; omega
theorem nsD2 {f : Nat → Int32} {len p : Int32} (h : 57 < rg f 600 p) : ¬ (p < len ∧ isD f p = true) := fun z => by
  have := (of_decide_eq_true z.2).2; rw [i_le] at this; rw [i_lt] at h; omega
theorem nsA1 {f : Nat → Int32} {len p : Int32} (h : rg f 600 p < 97) : ¬ (p < len ∧ isA f p = true) := fun z => by
  have := (of_decide_eq_true z.2).1; rw [i_le] at this; rw [i_lt] at h; omega
theorem nsA2 {f : Nat → Int32} {len p : Int32} (h : 122 < rg f 600 p) : ¬ (p < len ∧ isA f p = true) := fun z => by
  have := (of_decide_eq_true z.2).2; rw [i_le] at this; rw [i_lt] at h; omega
theorem isB_t {f : Nat → Int32} {p : Int32} (h : rg f 600 p = 32) : isB f p = true := decide_eq_true h
theorem isD_t {f : Nat → Int32} {p : Int32} (h1 : ¬ rg f 600 p < 48) (h2 : ¬ 57 < rg f 600 p) : isD f p = true := decide_eq_true ⟨i_nlt h1, i_nlt h2⟩
theorem isA_t {f : Nat → Int32} {p : Int32} (h1 : ¬ rg f 600 p < 97) (h2 : ¬ 122 < rg f 600 p) : isA f p = true := decide_eq_true ⟨i_nlt h1, i_nlt h2⟩
def nuG (f : Nat → Int32) (v p : Int32) : Int32 := if 1000000 < v * 10 + rg f 600 p - 48 then 1000000 else v * 10 + rg f 600 p - 48
/-- the tape ahead of a number's digits; its value; the tape behind it -/
def nu1 (σ : St) : St := up (rq σ (b2 (dnP σ))) 1 4 ((rq σ (b2 (dnP σ))) 1 3)
def nuV (σ : St) : Int32 := rv (σ 1 2) (isD (σ 3)) (nuG (σ 3)) 0 (σ 1 3)
def nuE (σ : St) : Int32 := rn (σ 1 2) (isD (σ 3)) (σ 1 3)
def nuS (σ : St) (least most : Int32) : St := if nuV (nu1 σ) < least ∨ most < nuV (nu1 σ) then bl (mvt (nu1 σ) (nuE (nu1 σ))) 2 ((mvt (nu1 σ) (nuE (nu1 σ))) 1 4) else mvt (nu1 σ) (nuE (nu1 σ))
theorem not_or_lt {v a b : Int32} (h1 : ¬ v < a) (h2 : v ≤ b) : ¬ (v < a ∨ b < v) := fun z => z.elim h1 (fun q => by rw [i_lt] at q; rw [i_le] at h2; omega)

theorem i_lle {x y : Int32} (h : x < y) : ¬ y ≤ x := by rw [i_lt] at h; rw [i_le]; omega

set_option maxRecDepth 20000 in
set_option maxHeartbeats 4000000 in
theorem c_Tape_held {l : Launch} {G : Gz} (hG : zI G) (σ : St) : MI l G y_Tape_held prog_10_method_2_code 1 .int 1 [.ref (G.1 1)] σ (σ 1 1) σ := by
  refine MI.of hG (by decide) (Nat.le_of_ble_eq_true rfl) (fun X hx hq => ?_)
  show J l G X 1 σ 0 [(0, .ref (G.1 1))] []
  refine j_aload_n hx d_Tape_held_0 rfl 0 rfl ?_
  refine j_get hx ck_Tape 1 (by decide) t_53 (by decide) (sh_1 _ _) rfl d_Tape_held_1 ?_
  exact j_iret hx hq rfl d_Tape_held_4 (by first | (first | rfl | (simp only []; done) | (simp []; done)) | fail) (by first | (first | rfl | (simp only []; done) | (simp []; done)) | fail)

set_option maxRecDepth 20000 in
set_option maxHeartbeats 4000000 in
theorem c_Tape_append {l : Launch} {G : Gz} (hG : zI G) (σ : St) (v : Int32) : MV l G y_Tape_append prog_10_method_3_code 3 2 [.ref (G.1 1), .int v] σ (tap (tap (tap (tap σ v 24) v 16) v 8) v 0) := by
  refine MV.of hG (by decide) (Nat.le_of_ble_eq_true rfl) (fun X hx hq => ?_)
  show J l G X 3 σ 0 [(0, .ref (G.1 1)), (1, .int v)] []
  refine j_bipush (v := 24) hx d_Tape_append_0 (by decide) ?_
  refine j_istore_n hx [(2, .int 24), (0, .ref (G.1 1)), (1, .int v)] d_Tape_append_2 rfl (by decide) rfl ?_
  refine j_iload_n hx d_Tape_append_3 rfl 0 rfl ?_
  refine j_if_lt (tgt := 41) hx d_Tape_append_4 (by decide) (fun zc4 => absurd zc4 (by decide)) (fun _ => ?_)
  refine j_aload_n hx d_Tape_append_7 rfl 1 rfl ?_
  refine j_get hx ck_Tape 0 (by decide) t_52 (by decide) (sh_1 _ _) rfl d_Tape_append_8 ?_
  refine j_aload_n hx d_Tape_append_11 rfl 1 rfl ?_
  refine j_get hx ck_Tape 1 (by decide) t_53 (by decide) (sh_1 _ _) rfl d_Tape_append_12 ?_
  refine j_iload_n hx d_Tape_append_15 rfl 2 rfl ?_
  refine j_iload_n hx d_Tape_append_16 rfl 0 rfl ?_
  refine j_iushr hx d_Tape_append_17 rfl ?_
  refine j_sipush (v := 255) hx d_Tape_append_18 (by decide) ?_
  refine j_iand hx d_Tape_append_21 ?_
  refine j_callVv hx (c_Row_set hG ir_2 σ (σ 1 1) (((v.toUInt32 >>> ((24 : Int32).toUInt32 &&& Int32.toUInt32 31)).toInt32) &&& 255)) mo_Row_set mv_Row_set t_390 (by decide) rfl (by decide) (sh_2 _ _) rfl rfl (Nat.le_of_ble_eq_true rfl) d_Tape_append_22 ?_
  refine j_aload_n hx d_Tape_append_25 rfl 1 rfl ?_
  refine j_dup hx d_Tape_append_26 rfl ?_
  refine j_get hx ck_Tape 1 (by decide) t_53 (by decide) (sh_1 _ _) rfl d_Tape_append_27 ?_
  refine j_iconst (v := 1) hx d_Tape_append_30 (by decide) ?_
  refine j_iadd hx d_Tape_append_31 ?_
  refine j_put hx ck_Tape 1 (by decide) t_53 (by decide) (sh_1 _ _) rfl (Nat.le_of_ble_eq_true rfl) (sh_1 _ _) d_Tape_append_32 ?_
  obtain ⟨s9_1, eg_1⟩ : ∃ z : St, z = tap σ v 24 := ⟨_, rfl⟩
  refine J.to (σ' := s9_1) (by rw [eg_1]; first | done | rfl) rfl ?_
  refine j_iinc hx [(2, .int 16), (0, .ref (G.1 1)), (1, .int v)] d_Tape_append_35 0 rfl (by decide) (by decide) rfl ?_
  refine j_goto (tgt := 3) hx d_Tape_append_38 (by decide) ?_
  refine j_iload_n hx d_Tape_append_3 rfl 0 rfl ?_
  refine j_if_lt (tgt := 41) hx d_Tape_append_4 (by decide) (fun zc4 => absurd zc4 (by decide)) (fun _ => ?_)
  refine j_aload_n hx d_Tape_append_7 rfl 1 rfl ?_
  refine j_get hx ck_Tape 0 (by decide) t_52 (by decide) (sh_1 _ _) rfl d_Tape_append_8 ?_
  refine j_aload_n hx d_Tape_append_11 rfl 1 rfl ?_
  refine j_get hx ck_Tape 1 (by decide) t_53 (by decide) (sh_1 _ _) rfl d_Tape_append_12 ?_
  refine j_iload_n hx d_Tape_append_15 rfl 2 rfl ?_
  refine j_iload_n hx d_Tape_append_16 rfl 0 rfl ?_
  refine j_iushr hx d_Tape_append_17 rfl ?_
  refine j_sipush (v := 255) hx d_Tape_append_18 (by decide) ?_
  refine j_iand hx d_Tape_append_21 ?_
  refine j_callVv hx (c_Row_set hG ir_2 s9_1 (s9_1 1 1) (((v.toUInt32 >>> ((16 : Int32).toUInt32 &&& Int32.toUInt32 31)).toInt32) &&& 255)) mo_Row_set mv_Row_set t_390 (by decide) rfl (by decide) (sh_2 _ _) rfl rfl (Nat.le_of_ble_eq_true rfl) d_Tape_append_22 ?_
  refine j_aload_n hx d_Tape_append_25 rfl 1 rfl ?_
  refine j_dup hx d_Tape_append_26 rfl ?_
  refine j_get hx ck_Tape 1 (by decide) t_53 (by decide) (sh_1 _ _) rfl d_Tape_append_27 ?_
  refine j_iconst (v := 1) hx d_Tape_append_30 (by decide) ?_
  refine j_iadd hx d_Tape_append_31 ?_
  refine j_put hx ck_Tape 1 (by decide) t_53 (by decide) (sh_1 _ _) rfl (Nat.le_of_ble_eq_true rfl) (sh_1 _ _) d_Tape_append_32 ?_
  obtain ⟨s9_2, eg_2⟩ : ∃ z : St, z = tap s9_1 v 16 := ⟨_, rfl⟩
  refine J.to (σ' := s9_2) (by rw [eg_2]; first | done | rfl) rfl ?_
  refine j_iinc hx [(2, .int 8), (0, .ref (G.1 1)), (1, .int v)] d_Tape_append_35 0 rfl (by decide) (by decide) rfl ?_
  refine j_goto (tgt := 3) hx d_Tape_append_38 (by decide) ?_
  refine j_iload_n hx d_Tape_append_3 rfl 0 rfl ?_
  refine j_if_lt (tgt := 41) hx d_Tape_append_4 (by decide) (fun zc4 => absurd zc4 (by decide)) (fun _ => ?_)
  refine j_aload_n hx d_Tape_append_7 rfl 1 rfl ?_
  refine j_get hx ck_Tape 0 (by decide) t_52 (by decide) (sh_1 _ _) rfl d_Tape_append_8 ?_
  refine j_aload_n hx d_Tape_append_11 rfl 1 rfl ?_
  refine j_get hx ck_Tape 1 (by decide) t_53 (by decide) (sh_1 _ _) rfl d_Tape_append_12 ?_
  refine j_iload_n hx d_Tape_append_15 rfl 2 rfl ?_
  refine j_iload_n hx d_Tape_append_16 rfl 0 rfl ?_
  refine j_iushr hx d_Tape_append_17 rfl ?_
  refine j_sipush (v := 255) hx d_Tape_append_18 (by decide) ?_
  refine j_iand hx d_Tape_append_21 ?_
  refine j_callVv hx (c_Row_set hG ir_2 s9_2 (s9_2 1 1) (((v.toUInt32 >>> ((8 : Int32).toUInt32 &&& Int32.toUInt32 31)).toInt32) &&& 255)) mo_Row_set mv_Row_set t_390 (by decide) rfl (by decide) (sh_2 _ _) rfl rfl (Nat.le_of_ble_eq_true rfl) d_Tape_append_22 ?_
  refine j_aload_n hx d_Tape_append_25 rfl 1 rfl ?_
  refine j_dup hx d_Tape_append_26 rfl ?_
  refine j_get hx ck_Tape 1 (by decide) t_53 (by decide) (sh_1 _ _) rfl d_Tape_append_27 ?_
  refine j_iconst (v := 1) hx d_Tape_append_30 (by decide) ?_
  refine j_iadd hx d_Tape_append_31 ?_
  refine j_put hx ck_Tape 1 (by decide) t_53 (by decide) (sh_1 _ _) rfl (Nat.le_of_ble_eq_true rfl) (sh_1 _ _) d_Tape_append_32 ?_
  obtain ⟨s9_3, eg_3⟩ : ∃ z : St, z = tap s9_2 v 8 := ⟨_, rfl⟩
  refine J.to (σ' := s9_3) (by rw [eg_3]; first | done | rfl) rfl ?_
  refine j_iinc hx [(2, .int 0), (0, .ref (G.1 1)), (1, .int v)] d_Tape_append_35 0 rfl (by decide) (by decide) rfl ?_
  refine j_goto (tgt := 3) hx d_Tape_append_38 (by decide) ?_
  refine j_iload_n hx d_Tape_append_3 rfl 0 rfl ?_
  refine j_if_lt (tgt := 41) hx d_Tape_append_4 (by decide) (fun zc4 => absurd zc4 (by decide)) (fun _ => ?_)
  refine j_aload_n hx d_Tape_append_7 rfl 1 rfl ?_
  refine j_get hx ck_Tape 0 (by decide) t_52 (by decide) (sh_1 _ _) rfl d_Tape_append_8 ?_
  refine j_aload_n hx d_Tape_append_11 rfl 1 rfl ?_
  refine j_get hx ck_Tape 1 (by decide) t_53 (by decide) (sh_1 _ _) rfl d_Tape_append_12 ?_
  refine j_iload_n hx d_Tape_append_15 rfl 2 rfl ?_
  refine j_iload_n hx d_Tape_append_16 rfl 0 rfl ?_
  refine j_iushr hx d_Tape_append_17 rfl ?_
  refine j_sipush (v := 255) hx d_Tape_append_18 (by decide) ?_
  refine j_iand hx d_Tape_append_21 ?_
  refine j_callVv hx (c_Row_set hG ir_2 s9_3 (s9_3 1 1) (((v.toUInt32 >>> ((0 : Int32).toUInt32 &&& Int32.toUInt32 31)).toInt32) &&& 255)) mo_Row_set mv_Row_set t_390 (by decide) rfl (by decide) (sh_2 _ _) rfl rfl (Nat.le_of_ble_eq_true rfl) d_Tape_append_22 ?_
  refine j_aload_n hx d_Tape_append_25 rfl 1 rfl ?_
  refine j_dup hx d_Tape_append_26 rfl ?_
  refine j_get hx ck_Tape 1 (by decide) t_53 (by decide) (sh_1 _ _) rfl d_Tape_append_27 ?_
  refine j_iconst (v := 1) hx d_Tape_append_30 (by decide) ?_
  refine j_iadd hx d_Tape_append_31 ?_
  refine j_put hx ck_Tape 1 (by decide) t_53 (by decide) (sh_1 _ _) rfl (Nat.le_of_ble_eq_true rfl) (sh_1 _ _) d_Tape_append_32 ?_
  obtain ⟨s9_4, eg_4⟩ : ∃ z : St, z = tap s9_3 v 0 := ⟨_, rfl⟩
  refine J.to (σ' := s9_4) (by rw [eg_4]; first | done | rfl) rfl ?_
  refine j_iinc hx [(2, .int ((-8))), (0, .ref (G.1 1)), (1, .int v)] d_Tape_append_35 0 rfl (by decide) (by decide) rfl ?_
  refine j_goto (tgt := 3) hx d_Tape_append_38 (by decide) ?_
  refine j_iload_n hx d_Tape_append_3 rfl 0 rfl ?_
  refine j_if_lt (tgt := 41) hx d_Tape_append_4 (by decide) (fun _ => ?_) (fun zc4 => absurd (by decide) zc4)
  exact j_vret hx hq d_Tape_append_41 (by first | (rw [eg_4, eg_3, eg_2, eg_1]) | fail)

set_option maxRecDepth 20000 in
set_option maxHeartbeats 4000000 in
theorem c_Tape_moveTo {l : Launch} {G : Gz} (hG : zI G) (σ : St) (b : Int32) : MV l G y_Tape_moveTo prog_10_method_11_code 2 2 [.ref (G.1 1), .int b] σ (mvt σ b) := by
  refine MV.of hG (by decide) (Nat.le_of_ble_eq_true rfl) (fun X hx hq => ?_)
  show J l G X 2 σ 0 [(0, .ref (G.1 1)), (1, .int b)] []
  refine j_aload_n hx d_Tape_moveTo_0 rfl 0 rfl ?_
  refine j_iload_n hx d_Tape_moveTo_1 rfl 1 rfl ?_
  refine j_put hx ck_Tape 3 (by decide) t_55 (by decide) (sh_1 _ _) rfl (Nat.le_of_ble_eq_true rfl) (sh_1 _ _) d_Tape_moveTo_2 ?_
  have hl5 : ∀ (N9 : Nat) (p : Int32), (rn (σ 1 2) (isB (σ 3)) p = rn (σ 1 2) (isB (σ 3)) b) → ((σ 1 2).toInt - p.toInt).toNat = N9 → J l G X 2 (up σ 1 3 p) 5 [(0, .ref (G.1 1)), (1, .int b)] [] := by
    intro N9
    induction N9 using Nat.strongRecOn with
    | _ N9 ih5 =>
      intro p hp hm5
      refine j_aload_n hx d_Tape_moveTo_5 rfl 0 rfl ?_
      refine j_get hx ck_Tape 3 (by decide) t_55 (by decide) (sh_1 _ _) rfl d_Tape_moveTo_6 ?_
      refine j_aload_n hx d_Tape_moveTo_9 rfl 0 rfl ?_
      refine j_get hx ck_Tape 2 (by decide) t_54 (by decide) (sh_1 _ _) rfl d_Tape_moveTo_10 ?_
      refine j_icmp_ge (tgt := 45) hx d_Tape_moveTo_13 (by decide) (fun zc13 => ?_) (fun zc13 => ?_)
      · skip
        rw [up_rd] at zc13
        have ep := (rn_stop (P := isB (σ 3)) (ns_len zc13)).symm.trans hp
        exact j_vret hx hq d_Tape_moveTo_45 (by first | (unfold mvt; rw [ep]) | fail)
      · skip
        rw [up_rd] at zc13
        have zc132 : ¬ σ 1 2 ≤ p := zc13
        refine j_aload_n hx d_Tape_moveTo_16 rfl 0 rfl ?_
        refine j_get hx ck_Tape 0 (by decide) t_52 (by decide) (sh_1 _ _) rfl d_Tape_moveTo_17 ?_
        refine j_aload_n hx d_Tape_moveTo_20 rfl 0 rfl ?_
        refine j_get hx ck_Tape 3 (by decide) t_55 (by decide) (sh_1 _ _) rfl d_Tape_moveTo_21 ?_
        refine j_callVi hx (c_Row_getA hG ir_2 3 rfl (up σ 1 3 p) ((up σ 1 3 p) 1 3)) mo_Row_get mv_Row_get t_641 (by decide) rfl (by decide) (sh_2 _ _) rfl rfl (Nat.le_of_ble_eq_true rfl) d_Tape_moveTo_24 ?_
        refine j_bipush (v := 32) hx d_Tape_moveTo_27 (by decide) ?_
        refine j_icmp_ne (tgt := 45) hx d_Tape_moveTo_29 (by decide) (fun zc29 => ?_) (fun zc29 => ?_)
        · skip
          rw [up_rd] at zc29
          have ep := (rn_stop (len := σ 1 2) (P := isB (σ 3)) (nsB (f := σ 3) zc29)).symm.trans hp
          exact j_vret hx hq d_Tape_moveTo_45 (by first | (unfold mvt; rw [ep]) | fail)
        · skip
          rw [up_rd] at zc29
          have zc292 : rg (σ 3) 600 p = 32 := zc29
          refine j_aload_n hx d_Tape_moveTo_32 rfl 0 rfl ?_
          refine j_dup hx d_Tape_moveTo_33 rfl ?_
          refine j_get hx ck_Tape 3 (by decide) t_55 (by decide) (sh_1 _ _) rfl d_Tape_moveTo_34 ?_
          refine j_iconst (v := 1) hx d_Tape_moveTo_37 (by decide) ?_
          refine j_iadd hx d_Tape_moveTo_38 ?_
          refine j_put hx ck_Tape 3 (by decide) t_55 (by decide) (sh_1 _ _) rfl (Nat.le_of_ble_eq_true rfl) (sh_1 _ _) d_Tape_moveTo_39 ?_
          refine j_goto (tgt := 5) hx d_Tape_moveTo_42 (by decide) ?_
          refine J.lsub (ls' := [(0, .ref (G.1 1)), (1, .int b)]) [0, 1] rfl ?_
          refine J.to ?_ ?_ (ih5 _ ?_ (p + 1) (hp ▸ (rn_go (i_nle (y := p) zc13) (isB_t (f := σ 3) (p := p) zc29)).symm) rfl)
          · first | (simp only [up_rd, up_up]) | fail
          · first | (first | rfl | (simp only [nI_s]; done) | (simp only [nI_s, it_s]; done) | (simp [nI_s, it_s, up_rd, up_up, zc13, zc29]; done)) | fail
          · first | (exact rn_dec (i_nle (y := p) zc13) hm5) | fail
  refine J.lsub (ls' := [(0, .ref (G.1 1)), (1, .int b)]) [0, 1] rfl ?_
  refine J.to ?_ ?_ (hl5 _ b rfl rfl)
  · first | (rfl) | fail
  · first | (first | rfl | (simp only [nI_s]; done) | (simp only [nI_s, it_s]; done) | (simp [nI_s, it_s, up_rd, up_up]; done)) | fail

set_option maxRecDepth 20000 in
set_option maxHeartbeats 4000000 in
theorem c_Tape_open {l : Launch} {G : Gz} (hG : zI G) (σ : St) (n : Int32) : MV l G y_Tape_open prog_10_method_4_code 2 3 [.ref (G.1 1), .int n] σ (opn σ n) := by
  refine MV.of hG (by decide) (Nat.le_of_ble_eq_true rfl) (fun X hx hq => ?_)
  show J l G X 2 σ 0 [(0, .ref (G.1 1)), (1, .int n)] []
  refine j_aload_n hx d_Tape_open_0 rfl 0 rfl ?_
  refine j_iload_n hx d_Tape_open_1 rfl 1 rfl ?_
  refine j_put hx ck_Tape 2 (by decide) t_54 (by decide) (sh_1 _ _) rfl (Nat.le_of_ble_eq_true rfl) (sh_1 _ _) d_Tape_open_2 ?_
  refine j_aload_n hx d_Tape_open_5 rfl 0 rfl ?_
  refine j_iconst (v := 0) hx d_Tape_open_6 (by decide) ?_
  refine j_put hx ck_Tape 1 (by decide) t_53 (by decide) (sh_1 _ _) rfl (Nat.le_of_ble_eq_true rfl) (sh_1 _ _) d_Tape_open_7 ?_
  refine j_aload_n hx d_Tape_open_10 rfl 0 rfl ?_
  refine j_iconst (v := 0) hx d_Tape_open_11 (by decide) ?_
  refine j_put hx ck_Tape 5 (by decide) t_57 (by decide) (sh_1 _ _) rfl (Nat.le_of_ble_eq_true rfl) (sh_1 _ _) d_Tape_open_12 ?_
  refine j_aload_n hx d_Tape_open_15 rfl 0 rfl ?_
  refine j_iconst (v := (-1)) hx d_Tape_open_16 (by decide) ?_
  refine j_put hx ck_Tape 6 (by decide) t_58 (by decide) (sh_1 _ _) rfl (Nat.le_of_ble_eq_true rfl) (sh_1 _ _) d_Tape_open_17 ?_
  refine j_aload_n hx d_Tape_open_20 rfl 0 rfl ?_
  refine j_iconst (v := 0) hx d_Tape_open_21 (by decide) ?_
  refine j_callVv hx (c_Tape_moveTo hG (up (up (up (up σ 1 2 n) 1 1 0) 1 5 0) 1 6 ((-1))) 0) mo_Tape_moveTo mv_Tape_moveTo t_637 (by decide) rfl (by decide) (sh_1 _ _) rfl rfl (Nat.le_of_ble_eq_true rfl) d_Tape_open_22 ?_
  exact j_vret hx hq d_Tape_open_25 (by first | (first | rfl | (simp only []; done) | (simp []; done)) | fail)

set_option maxRecDepth 20000 in
set_option maxHeartbeats 4000000 in
theorem c_Tape_fine {l : Launch} {G : Gz} (hG : zI G) (σ : St) : MI l G y_Tape_fine prog_10_method_5_code 1 .boolean 1 [.ref (G.1 1)] σ (b2 (σ 1 5 = 0)) σ := by
  refine MI.of hG (by decide) (Nat.le_of_ble_eq_true rfl) (fun X hx hq => ?_)
  show J l G X 1 σ 0 [(0, .ref (G.1 1))] []
  refine j_aload_n hx d_Tape_fine_0 rfl 0 rfl ?_
  refine j_get hx ck_Tape 5 (by decide) t_57 (by decide) (sh_1 _ _) rfl d_Tape_fine_1 ?_
  refine j_if_ne (tgt := 11) hx d_Tape_fine_4 (by decide) (fun zc4 => ?_) (fun zc4 => ?_)
  · skip
    refine j_iconst (v := 0) hx d_Tape_fine_11 (by decide) ?_
    exact j_iret hx hq rfl d_Tape_fine_12 (by first | (first | rfl | (simp only [b2, zc4]; done) | (simp [b2, zc4]; done)) | fail) (by first | (first | rfl | (simp only [b2, zc4]; done) | (simp [b2, zc4]; done)) | fail)
  · skip
    refine j_iconst (v := 1) hx d_Tape_fine_7 (by decide) ?_
    refine j_goto (tgt := 12) hx d_Tape_fine_8 (by decide) ?_
    exact j_iret hx hq rfl d_Tape_fine_12 (by first | (first | rfl | (simp only [b2, zc4]; done) | (simp [b2, zc4]; done)) | fail) (by first | (first | rfl | (simp only [b2, zc4]; done) | (simp [b2, zc4]; done)) | fail)

set_option maxRecDepth 20000 in
set_option maxHeartbeats 4000000 in
theorem c_Tape_faultPlace {l : Launch} {G : Gz} (hG : zI G) (σ : St) : MI l G y_Tape_faultPlace prog_10_method_6_code 1 .int 1 [.ref (G.1 1)] σ (σ 1 6) σ := by
  refine MI.of hG (by decide) (Nat.le_of_ble_eq_true rfl) (fun X hx hq => ?_)
  show J l G X 1 σ 0 [(0, .ref (G.1 1))] []
  refine j_aload_n hx d_Tape_faultPlace_0 rfl 0 rfl ?_
  refine j_get hx ck_Tape 6 (by decide) t_58 (by decide) (sh_1 _ _) rfl d_Tape_faultPlace_1 ?_
  exact j_iret hx hq rfl d_Tape_faultPlace_4 (by first | (first | rfl | (simp only []; done) | (simp []; done)) | fail) (by first | (first | rfl | (simp only []; done) | (simp []; done)) | fail)

set_option maxRecDepth 20000 in
set_option maxHeartbeats 4000000 in
theorem c_Tape_answer {l : Launch} {G : Gz} (hG : zI G) (σ : St) : MI l G y_Tape_answer prog_10_method_7_code 1 .int 1 [.ref (G.1 1)] σ (σ 1 5 - 10) σ := by
  refine MI.of hG (by decide) (Nat.le_of_ble_eq_true rfl) (fun X hx hq => ?_)
  show J l G X 1 σ 0 [(0, .ref (G.1 1))] []
  refine j_aload_n hx d_Tape_answer_0 rfl 0 rfl ?_
  refine j_get hx ck_Tape 5 (by decide) t_57 (by decide) (sh_1 _ _) rfl d_Tape_answer_1 ?_
  refine j_bipush (v := 10) hx d_Tape_answer_4 (by decide) ?_
  refine j_isub hx d_Tape_answer_6 ?_
  exact j_iret hx hq rfl d_Tape_answer_7 (by first | (first | rfl | (simp only []; done) | (simp []; done)) | fail) (by first | (first | rfl | (simp only []; done) | (simp []; done)) | fail)

set_option maxRecDepth 20000 in
set_option maxHeartbeats 4000000 in
theorem c_Tape_blame {l : Launch} {G : Gz} (hG : zI G) (σ : St) (kind : Int32) (whr : Int32) : MV l G y_Tape_blame prog_10_method_8_code 3 1 [.ref (G.1 1), .int kind, .int whr] σ (bl σ kind whr) := by
  refine MV.of hG (by decide) (Nat.le_of_ble_eq_true rfl) (fun X hx hq => ?_)
  show J l G X 3 σ 0 [(0, .ref (G.1 1)), (1, .int kind), (2, .int whr)] []
  refine j_aload_n hx d_Tape_blame_0 rfl 0 rfl ?_
  refine j_get hx ck_Tape 5 (by decide) t_57 (by decide) (sh_1 _ _) rfl d_Tape_blame_1 ?_
  refine j_if_ne (tgt := 17) hx d_Tape_blame_4 (by decide) (fun zc4 => ?_) (fun zc4 => ?_)
  · skip
    exact j_vret hx hq d_Tape_blame_17 (by first | (first | rfl | (simp only [bl, zc4]; done) | (simp [bl, zc4]; done)) | fail)
  · skip
    refine j_aload_n hx d_Tape_blame_7 rfl 0 rfl ?_
    refine j_iload_n hx d_Tape_blame_8 rfl 1 rfl ?_
    refine j_put hx ck_Tape 5 (by decide) t_57 (by decide) (sh_1 _ _) rfl (Nat.le_of_ble_eq_true rfl) (sh_1 _ _) d_Tape_blame_9 ?_
    refine j_aload_n hx d_Tape_blame_12 rfl 0 rfl ?_
    refine j_iload_n hx d_Tape_blame_13 rfl 2 rfl ?_
    refine j_put hx ck_Tape 6 (by decide) t_58 (by decide) (sh_1 _ _) rfl (Nat.le_of_ble_eq_true rfl) (sh_1 _ _) d_Tape_blame_14 ?_
    exact j_vret hx hq d_Tape_blame_17 (by first | (first | rfl | (simp only [bl, zc4]; done) | (simp [bl, zc4]; done)) | fail)

set_option maxRecDepth 20000 in
set_option maxHeartbeats 4000000 in
theorem c_Tape_blameItem {l : Launch} {G : Gz} (hG : zI G) (σ : St) (kind : Int32) : MV l G y_Tape_blameItem prog_10_method_9_code 2 2 [.ref (G.1 1), .int kind] σ (bl σ kind (σ 1 4)) := by
  refine MV.of hG (by decide) (Nat.le_of_ble_eq_true rfl) (fun X hx hq => ?_)
  show J l G X 2 σ 0 [(0, .ref (G.1 1)), (1, .int kind)] []
  refine j_aload_n hx d_Tape_blameItem_0 rfl 0 rfl ?_
  refine j_iload_n hx d_Tape_blameItem_1 rfl 1 rfl ?_
  refine j_aload_n hx d_Tape_blameItem_2 rfl 0 rfl ?_
  refine j_get hx ck_Tape 4 (by decide) t_56 (by decide) (sh_1 _ _) rfl d_Tape_blameItem_3 ?_
  refine j_callVv hx (c_Tape_blame hG σ kind (σ 1 4)) mo_Tape_blame mv_Tape_blame t_719 (by decide) rfl (by decide) (sh_1 _ _) rfl rfl (Nat.le_of_ble_eq_true rfl) d_Tape_blameItem_6 ?_
  exact j_vret hx hq d_Tape_blameItem_9 (by first | (first | rfl | (simp only []; done) | (simp []; done)) | fail)

set_option maxRecDepth 20000 in
set_option maxHeartbeats 4000000 in
theorem c_Tape_require {l : Launch} {G : Gz} (hG : zI G) (σ : St) (came : Int32) : MV l G y_Tape_require prog_10_method_10_code 2 2 [.ref (G.1 1), .int came] σ (rq σ came) := by
  refine MV.of hG (by decide) (Nat.le_of_ble_eq_true rfl) (fun X hx hq => ?_)
  show J l G X 2 σ 0 [(0, .ref (G.1 1)), (1, .int came)] []
  refine j_iload_n hx d_Tape_require_0 rfl 1 rfl ?_
  refine j_if_ne (tgt := 13) hx d_Tape_require_1 (by decide) (fun zc1 => ?_) (fun zc1 => ?_)
  · skip
    exact j_vret hx hq d_Tape_require_13 (by first | (first | rfl | (simp only [rq, zc1]; done) | (simp [rq, zc1]; done)) | fail)
  · skip
    refine j_aload_n hx d_Tape_require_4 rfl 0 rfl ?_
    refine j_iconst (v := 1) hx d_Tape_require_5 (by decide) ?_
    refine j_aload_n hx d_Tape_require_6 rfl 0 rfl ?_
    refine j_get hx ck_Tape 3 (by decide) t_55 (by decide) (sh_1 _ _) rfl d_Tape_require_7 ?_
    refine j_callVv hx (c_Tape_blame hG σ 1 (σ 1 3)) mo_Tape_blame mv_Tape_blame t_719 (by decide) rfl (by decide) (sh_1 _ _) rfl rfl (Nat.le_of_ble_eq_true rfl) d_Tape_require_10 ?_
    exact j_vret hx hq d_Tape_require_13 (by first | (first | rfl | (simp only [rq, zc1]; done) | (simp [rq, zc1]; done)) | fail)

set_option maxRecDepth 20000 in
set_option maxHeartbeats 4000000 in
theorem c_Tape_ended {l : Launch} {G : Gz} (hG : zI G) (σ : St) : MI l G y_Tape_ended prog_10_method_12_code 1 .boolean 1 [.ref (G.1 1)] σ (b2 (σ 1 2 ≤ σ 1 3)) σ := by
  refine MI.of hG (by decide) (Nat.le_of_ble_eq_true rfl) (fun X hx hq => ?_)
  show J l G X 1 σ 0 [(0, .ref (G.1 1))] []
  refine j_aload_n hx d_Tape_ended_0 rfl 0 rfl ?_
  refine j_get hx ck_Tape 3 (by decide) t_55 (by decide) (sh_1 _ _) rfl d_Tape_ended_1 ?_
  refine j_aload_n hx d_Tape_ended_4 rfl 0 rfl ?_
  refine j_get hx ck_Tape 2 (by decide) t_54 (by decide) (sh_1 _ _) rfl d_Tape_ended_5 ?_
  refine j_icmp_lt (tgt := 15) hx d_Tape_ended_8 (by decide) (fun zc8 => ?_) (fun zc8 => ?_)
  · skip
    refine j_iconst (v := 0) hx d_Tape_ended_15 (by decide) ?_
    exact j_iret hx hq rfl d_Tape_ended_16 (by first | (first | rfl | (simp only [b2, zc8]; done) | (simp [b2, zc8]; done)) | fail) (by first | (first | rfl | (simp only [b2, zc8]; done) | (simp [b2, zc8]; done)) | fail)
  · skip
    refine j_iconst (v := 1) hx d_Tape_ended_11 (by decide) ?_
    refine j_goto (tgt := 16) hx d_Tape_ended_12 (by decide) ?_
    exact j_iret hx hq rfl d_Tape_ended_16 (by first | (first | rfl | (simp only [b2, zc8]; done) | (simp [b2, zc8]; done)) | fail) (by first | (first | rfl | (simp only [b2, zc8]; done) | (simp [b2, zc8]; done)) | fail)

set_option maxRecDepth 20000 in
set_option maxHeartbeats 4000000 in
theorem c_Tape_nextIs {l : Launch} {G : Gz} (hG : zI G) (σ : St) (c : Int32) : MI l G y_Tape_nextIs prog_10_method_13_code 2 .boolean 2 [.ref (G.1 1), .int c] σ (b2 (nxP σ c)) σ := by
  refine MI.of hG (by decide) (Nat.le_of_ble_eq_true rfl) (fun X hx hq => ?_)
  show J l G X 2 σ 0 [(0, .ref (G.1 1)), (1, .int c)] []
  refine j_aload_n hx d_Tape_nextIs_0 rfl 0 rfl ?_
  refine j_get hx ck_Tape 3 (by decide) t_55 (by decide) (sh_1 _ _) rfl d_Tape_nextIs_1 ?_
  refine j_aload_n hx d_Tape_nextIs_4 rfl 0 rfl ?_
  refine j_get hx ck_Tape 2 (by decide) t_54 (by decide) (sh_1 _ _) rfl d_Tape_nextIs_5 ?_
  refine j_icmp_ge (tgt := 30) hx d_Tape_nextIs_8 (by decide) (fun zc8 => ?_) (fun zc8 => ?_)
  · skip
    refine j_iconst (v := 0) hx d_Tape_nextIs_30 (by decide) ?_
    exact j_iret hx hq rfl d_Tape_nextIs_31 (by first | (first | exact (b2_t (p := nxP σ c) ⟨i_nle zc8, zc23⟩).symm | exact (b2_f (p := nxP σ c) (fun z => zc23 z.2)).symm | exact (b2_f (p := nxP σ c) (ns_len zc8)).symm) | fail) (by first | (first | rfl | (simp only [zc8]; done) | (simp [zc8]; done)) | fail)
  · skip
    refine j_aload_n hx d_Tape_nextIs_11 rfl 0 rfl ?_
    refine j_get hx ck_Tape 0 (by decide) t_52 (by decide) (sh_1 _ _) rfl d_Tape_nextIs_12 ?_
    refine j_aload_n hx d_Tape_nextIs_15 rfl 0 rfl ?_
    refine j_get hx ck_Tape 3 (by decide) t_55 (by decide) (sh_1 _ _) rfl d_Tape_nextIs_16 ?_
    refine j_callVi hx (c_Row_getA hG ir_2 3 rfl σ (σ 1 3)) mo_Row_get mv_Row_get t_641 (by decide) rfl (by decide) (sh_2 _ _) rfl rfl (Nat.le_of_ble_eq_true rfl) d_Tape_nextIs_19 ?_
    refine j_iload_n hx d_Tape_nextIs_22 rfl 1 rfl ?_
    refine j_icmp_ne (tgt := 30) hx d_Tape_nextIs_23 (by decide) (fun zc23 => ?_) (fun zc23 => ?_)
    · skip
      refine j_iconst (v := 0) hx d_Tape_nextIs_30 (by decide) ?_
      exact j_iret hx hq rfl d_Tape_nextIs_31 (by first | (first | exact (b2_t (p := nxP σ c) ⟨i_nle zc8, zc23⟩).symm | exact (b2_f (p := nxP σ c) (fun z => zc23 z.2)).symm | exact (b2_f (p := nxP σ c) (ns_len zc8)).symm) | fail) (by first | (first | rfl | (simp only [zc8, zc23]; done) | (simp [zc8, zc23]; done)) | fail)
    · skip
      refine j_iconst (v := 1) hx d_Tape_nextIs_26 (by decide) ?_
      refine j_goto (tgt := 31) hx d_Tape_nextIs_27 (by decide) ?_
      exact j_iret hx hq rfl d_Tape_nextIs_31 (by first | (first | exact (b2_t (p := nxP σ c) ⟨i_nle zc8, zc23⟩).symm | exact (b2_f (p := nxP σ c) (fun z => zc23 z.2)).symm | exact (b2_f (p := nxP σ c) (ns_len zc8)).symm) | fail) (by first | (first | rfl | (simp only [zc8, zc23]; done) | (simp [zc8, zc23]; done)) | fail)

set_option maxRecDepth 20000 in
set_option maxHeartbeats 4000000 in
theorem c_Tape_take {l : Launch} {G : Gz} (hG : zI G) (σ : St) (c : Int32) : MI l G y_Tape_take prog_10_method_14_code 2 .boolean 3 [.ref (G.1 1), .int c] σ (b2 (tkP σ c)) (tkS σ c) := by
  refine MI.of hG (by decide) (Nat.le_of_ble_eq_true rfl) (fun X hx hq => ?_)
  show J l G X 2 σ 0 [(0, .ref (G.1 1)), (1, .int c)] []
  refine j_aload_n hx d_Tape_take_0 rfl 0 rfl ?_
  refine j_get hx ck_Tape 5 (by decide) t_57 (by decide) (sh_1 _ _) rfl d_Tape_take_1 ?_
  refine j_if_ne (tgt := 33) hx d_Tape_take_4 (by decide) (fun zc4 => ?_) (fun zc4 => ?_)
  · skip
    refine j_iconst (v := 0) hx d_Tape_take_33 (by decide) ?_
    exact j_iret hx hq rfl d_Tape_take_34 (by first | (first | exact (b2_t (p := tkP σ c) ⟨zc4, i_nle zc15, zc30⟩).symm | exact (b2_f (p := tkP σ c) (fun z => zc30 z.2.2)).symm | exact (b2_f (p := tkP σ c) (fun z => ns_len zc15 z.2)).symm | exact (b2_f (p := tkP σ c) (fun z => zc4 z.1)).symm) | fail) (by first | (first | exact (if_pos (c := tkP σ c) ⟨zc4, i_nle zc15, zc30⟩).symm | exact (if_neg (c := tkP σ c) (fun z => zc30 z.2.2)).symm | exact (if_neg (c := tkP σ c) (fun z => ns_len zc15 z.2)).symm | exact (if_neg (c := tkP σ c) (fun z => zc4 z.1)).symm) | fail)
  · skip
    refine j_aload_n hx d_Tape_take_7 rfl 0 rfl ?_
    refine j_get hx ck_Tape 3 (by decide) t_55 (by decide) (sh_1 _ _) rfl d_Tape_take_8 ?_
    refine j_aload_n hx d_Tape_take_11 rfl 0 rfl ?_
    refine j_get hx ck_Tape 2 (by decide) t_54 (by decide) (sh_1 _ _) rfl d_Tape_take_12 ?_
    refine j_icmp_ge (tgt := 33) hx d_Tape_take_15 (by decide) (fun zc15 => ?_) (fun zc15 => ?_)
    · skip
      refine j_iconst (v := 0) hx d_Tape_take_33 (by decide) ?_
      exact j_iret hx hq rfl d_Tape_take_34 (by first | (first | exact (b2_t (p := tkP σ c) ⟨zc4, i_nle zc15, zc30⟩).symm | exact (b2_f (p := tkP σ c) (fun z => zc30 z.2.2)).symm | exact (b2_f (p := tkP σ c) (fun z => ns_len zc15 z.2)).symm | exact (b2_f (p := tkP σ c) (fun z => zc4 z.1)).symm) | fail) (by first | (first | exact (if_pos (c := tkP σ c) ⟨zc4, i_nle zc15, zc30⟩).symm | exact (if_neg (c := tkP σ c) (fun z => zc30 z.2.2)).symm | exact (if_neg (c := tkP σ c) (fun z => ns_len zc15 z.2)).symm | exact (if_neg (c := tkP σ c) (fun z => zc4 z.1)).symm) | fail)
    · skip
      refine j_aload_n hx d_Tape_take_18 rfl 0 rfl ?_
      refine j_get hx ck_Tape 0 (by decide) t_52 (by decide) (sh_1 _ _) rfl d_Tape_take_19 ?_
      refine j_aload_n hx d_Tape_take_22 rfl 0 rfl ?_
      refine j_get hx ck_Tape 3 (by decide) t_55 (by decide) (sh_1 _ _) rfl d_Tape_take_23 ?_
      refine j_callVi hx (c_Row_getA hG ir_2 3 rfl σ (σ 1 3)) mo_Row_get mv_Row_get t_641 (by decide) rfl (by decide) (sh_2 _ _) rfl rfl (Nat.le_of_ble_eq_true rfl) d_Tape_take_26 ?_
      refine j_iload_n hx d_Tape_take_29 rfl 1 rfl ?_
      refine j_icmp_eq (tgt := 35) hx d_Tape_take_30 (by decide) (fun zc30 => ?_) (fun zc30 => ?_)
      · skip
        refine j_aload_n hx d_Tape_take_35 rfl 0 rfl ?_
        refine j_aload_n hx d_Tape_take_36 rfl 0 rfl ?_
        refine j_get hx ck_Tape 3 (by decide) t_55 (by decide) (sh_1 _ _) rfl d_Tape_take_37 ?_
        refine j_put hx ck_Tape 4 (by decide) t_56 (by decide) (sh_1 _ _) rfl (Nat.le_of_ble_eq_true rfl) (sh_1 _ _) d_Tape_take_40 ?_
        refine j_aload_n hx d_Tape_take_43 rfl 0 rfl ?_
        refine j_aload_n hx d_Tape_take_44 rfl 0 rfl ?_
        refine j_get hx ck_Tape 3 (by decide) t_55 (by decide) (sh_1 _ _) rfl d_Tape_take_45 ?_
        refine j_iconst (v := 1) hx d_Tape_take_48 (by decide) ?_
        refine j_iadd hx d_Tape_take_49 ?_
        refine j_callVv hx (c_Tape_moveTo hG (up σ 1 4 (σ 1 3)) (((up σ 1 4 (σ 1 3)) 1 3) + 1)) mo_Tape_moveTo mv_Tape_moveTo t_637 (by decide) rfl (by decide) (sh_1 _ _) rfl rfl (Nat.le_of_ble_eq_true rfl) d_Tape_take_50 ?_
        refine j_iconst (v := 1) hx d_Tape_take_53 (by decide) ?_
        exact j_iret hx hq rfl d_Tape_take_54 (by first | (first | exact (b2_t (p := tkP σ c) ⟨zc4, i_nle zc15, zc30⟩).symm | exact (b2_f (p := tkP σ c) (fun z => zc30 z.2.2)).symm | exact (b2_f (p := tkP σ c) (fun z => ns_len zc15 z.2)).symm | exact (b2_f (p := tkP σ c) (fun z => zc4 z.1)).symm) | fail) (by first | (first | exact (if_pos (c := tkP σ c) ⟨zc4, i_nle zc15, zc30⟩).symm | exact (if_neg (c := tkP σ c) (fun z => zc30 z.2.2)).symm | exact (if_neg (c := tkP σ c) (fun z => ns_len zc15 z.2)).symm | exact (if_neg (c := tkP σ c) (fun z => zc4 z.1)).symm) | fail)
      · skip
        refine j_iconst (v := 0) hx d_Tape_take_33 (by decide) ?_
        exact j_iret hx hq rfl d_Tape_take_34 (by first | (first | exact (b2_t (p := tkP σ c) ⟨zc4, i_nle zc15, zc30⟩).symm | exact (b2_f (p := tkP σ c) (fun z => zc30 z.2.2)).symm | exact (b2_f (p := tkP σ c) (fun z => ns_len zc15 z.2)).symm | exact (b2_f (p := tkP σ c) (fun z => zc4 z.1)).symm) | fail) (by first | (first | exact (if_pos (c := tkP σ c) ⟨zc4, i_nle zc15, zc30⟩).symm | exact (if_neg (c := tkP σ c) (fun z => zc30 z.2.2)).symm | exact (if_neg (c := tkP σ c) (fun z => ns_len zc15 z.2)).symm | exact (if_neg (c := tkP σ c) (fun z => zc4 z.1)).symm) | fail)

set_option maxRecDepth 20000 in
set_option maxHeartbeats 4000000 in
theorem c_Tape_digitNext {l : Launch} {G : Gz} (hG : zI G) (σ : St) : MI l G y_Tape_digitNext prog_10_method_15_code 1 .boolean 2 [.ref (G.1 1)] σ (b2 (dnP σ)) σ := by
  refine MI.of hG (by decide) (Nat.le_of_ble_eq_true rfl) (fun X hx hq => ?_)
  show J l G X 1 σ 0 [(0, .ref (G.1 1))] []
  refine j_aload_n hx d_Tape_digitNext_0 rfl 0 rfl ?_
  refine j_get hx ck_Tape 3 (by decide) t_55 (by decide) (sh_1 _ _) rfl d_Tape_digitNext_1 ?_
  refine j_aload_n hx d_Tape_digitNext_4 rfl 0 rfl ?_
  refine j_get hx ck_Tape 2 (by decide) t_54 (by decide) (sh_1 _ _) rfl d_Tape_digitNext_5 ?_
  refine j_icmp_ge (tgt := 47) hx d_Tape_digitNext_8 (by decide) (fun zc8 => ?_) (fun zc8 => ?_)
  · skip
    refine j_iconst (v := 0) hx d_Tape_digitNext_47 (by decide) ?_
    exact j_iret hx hq rfl d_Tape_digitNext_48 (by first | (first | exact (b2_t (p := dnP σ) ⟨i_nle zc8, i_nlt zc24, i_nlt zc40⟩).symm | exact (b2_f (p := dnP σ) (ns_len zc8)).symm | exact (b2_f (p := dnP σ) (fun z => i_lle zc24 z.2.1)).symm | exact (b2_f (p := dnP σ) (fun z => i_lle zc40 z.2.2)).symm) | fail) (by first | (first | rfl | (simp only [zc8]; done) | (simp [zc8]; done)) | fail)
  · skip
    refine j_aload_n hx d_Tape_digitNext_11 rfl 0 rfl ?_
    refine j_get hx ck_Tape 0 (by decide) t_52 (by decide) (sh_1 _ _) rfl d_Tape_digitNext_12 ?_
    refine j_aload_n hx d_Tape_digitNext_15 rfl 0 rfl ?_
    refine j_get hx ck_Tape 3 (by decide) t_55 (by decide) (sh_1 _ _) rfl d_Tape_digitNext_16 ?_
    refine j_callVi hx (c_Row_getA hG ir_2 3 rfl σ (σ 1 3)) mo_Row_get mv_Row_get t_641 (by decide) rfl (by decide) (sh_2 _ _) rfl rfl (Nat.le_of_ble_eq_true rfl) d_Tape_digitNext_19 ?_
    refine j_bipush (v := 48) hx d_Tape_digitNext_22 (by decide) ?_
    refine j_icmp_lt (tgt := 47) hx d_Tape_digitNext_24 (by decide) (fun zc24 => ?_) (fun zc24 => ?_)
    · skip
      refine j_iconst (v := 0) hx d_Tape_digitNext_47 (by decide) ?_
      exact j_iret hx hq rfl d_Tape_digitNext_48 (by first | (first | exact (b2_t (p := dnP σ) ⟨i_nle zc8, i_nlt zc24, i_nlt zc40⟩).symm | exact (b2_f (p := dnP σ) (ns_len zc8)).symm | exact (b2_f (p := dnP σ) (fun z => i_lle zc24 z.2.1)).symm | exact (b2_f (p := dnP σ) (fun z => i_lle zc40 z.2.2)).symm) | fail) (by first | (first | rfl | (simp only [zc8, zc24]; done) | (simp [zc8, zc24]; done)) | fail)
    · skip
      refine j_aload_n hx d_Tape_digitNext_27 rfl 0 rfl ?_
      refine j_get hx ck_Tape 0 (by decide) t_52 (by decide) (sh_1 _ _) rfl d_Tape_digitNext_28 ?_
      refine j_aload_n hx d_Tape_digitNext_31 rfl 0 rfl ?_
      refine j_get hx ck_Tape 3 (by decide) t_55 (by decide) (sh_1 _ _) rfl d_Tape_digitNext_32 ?_
      refine j_callVi hx (c_Row_getA hG ir_2 3 rfl σ (σ 1 3)) mo_Row_get mv_Row_get t_641 (by decide) rfl (by decide) (sh_2 _ _) rfl rfl (Nat.le_of_ble_eq_true rfl) d_Tape_digitNext_35 ?_
      refine j_bipush (v := 57) hx d_Tape_digitNext_38 (by decide) ?_
      refine j_icmp_gt (tgt := 47) hx d_Tape_digitNext_40 (by decide) (fun zc40 => ?_) (fun zc40 => ?_)
      · skip
        refine j_iconst (v := 0) hx d_Tape_digitNext_47 (by decide) ?_
        exact j_iret hx hq rfl d_Tape_digitNext_48 (by first | (first | exact (b2_t (p := dnP σ) ⟨i_nle zc8, i_nlt zc24, i_nlt zc40⟩).symm | exact (b2_f (p := dnP σ) (ns_len zc8)).symm | exact (b2_f (p := dnP σ) (fun z => i_lle zc24 z.2.1)).symm | exact (b2_f (p := dnP σ) (fun z => i_lle zc40 z.2.2)).symm) | fail) (by first | (first | rfl | (simp only [zc8, zc24, zc40]; done) | (simp [zc8, zc24, zc40]; done)) | fail)
      · skip
        refine j_iconst (v := 1) hx d_Tape_digitNext_43 (by decide) ?_
        refine j_goto (tgt := 48) hx d_Tape_digitNext_44 (by decide) ?_
        exact j_iret hx hq rfl d_Tape_digitNext_48 (by first | (first | exact (b2_t (p := dnP σ) ⟨i_nle zc8, i_nlt zc24, i_nlt zc40⟩).symm | exact (b2_f (p := dnP σ) (ns_len zc8)).symm | exact (b2_f (p := dnP σ) (fun z => i_lle zc24 z.2.1)).symm | exact (b2_f (p := dnP σ) (fun z => i_lle zc40 z.2.2)).symm) | fail) (by first | (first | rfl | (simp only [zc8, zc24, zc40]; done) | (simp [zc8, zc24, zc40]; done)) | fail)

set_option maxRecDepth 20000 in
set_option maxHeartbeats 4000000 in
theorem c_Tape_numberIn {l : Launch} {G : Gz} (hG : zI G) (σ : St) (least : Int32) (most : Int32) : MI l G y_Tape_numberIn prog_10_method_16_code 5 .int 3 [.ref (G.1 1), .int least, .int most] σ (nuV (nu1 σ)) (nuS σ least most) := by
  refine MI.of hG (by decide) (Nat.le_of_ble_eq_true rfl) (fun X hx hq => ?_)
  show J l G X 5 σ 0 [(0, .ref (G.1 1)), (1, .int least), (2, .int most)] []
  refine j_aload_n hx d_Tape_numberIn_0 rfl 0 rfl ?_
  refine j_aload_n hx d_Tape_numberIn_1 rfl 0 rfl ?_
  refine j_callVi hx (c_Tape_digitNext hG σ) mo_Tape_digitNext mv_Tape_digitNext t_735 (by decide) rfl (by decide) (sh_1 _ _) rfl rfl (Nat.le_of_ble_eq_true rfl) d_Tape_numberIn_2 ?_
  refine j_callVv hx (c_Tape_require hG σ (b2 (dnP σ))) mo_Tape_require mv_Tape_require t_739 (by decide) rfl (by decide) (sh_1 _ _) rfl rfl (Nat.le_of_ble_eq_true rfl) d_Tape_numberIn_5 ?_
  refine j_aload_n hx d_Tape_numberIn_8 rfl 0 rfl ?_
  refine j_aload_n hx d_Tape_numberIn_9 rfl 0 rfl ?_
  refine j_get hx ck_Tape 3 (by decide) t_55 (by decide) (sh_1 _ _) rfl d_Tape_numberIn_10 ?_
  refine j_put hx ck_Tape 4 (by decide) t_56 (by decide) (sh_1 _ _) rfl (Nat.le_of_ble_eq_true rfl) (sh_1 _ _) d_Tape_numberIn_13 ?_
  obtain ⟨s9_1, eg_1⟩ : ∃ z : St, z = nu1 σ := ⟨_, rfl⟩
  refine J.to (σ' := s9_1) (by rw [eg_1]; first | done | rfl) rfl ?_
  refine j_iconst (v := 0) hx d_Tape_numberIn_16 (by decide) ?_
  refine j_istore_n hx [(3, .int 0), (0, .ref (G.1 1)), (1, .int least), (2, .int most)] d_Tape_numberIn_17 rfl (by decide) rfl ?_
  refine j_aload_n hx d_Tape_numberIn_18 rfl 1 rfl ?_
  refine j_get hx ck_Tape 3 (by decide) t_55 (by decide) (sh_1 _ _) rfl d_Tape_numberIn_19 ?_
  refine j_istore hx [(4, .int (s9_1 1 3)), (3, .int 0), (0, .ref (G.1 1)), (1, .int least), (2, .int most)] d_Tape_numberIn_22 (by decide) rfl ?_
  have hl24 : ∀ (N9 : Nat) (v p : Int32), (rv (s9_1 1 2) (isD (s9_1 3)) (nuG (s9_1 3)) v p = rv (s9_1 1 2) (isD (s9_1 3)) (nuG (s9_1 3)) 0 (s9_1 1 3)) → (rn (s9_1 1 2) (isD (s9_1 3)) p = rn (s9_1 1 2) (isD (s9_1 3)) (s9_1 1 3)) → ((s9_1 1 2).toInt - p.toInt).toNat = N9 → J l G X 5 s9_1 24 [(0, .ref (G.1 1)), (1, .int least), (2, .int most), (3, .int v), (4, .int p)] [] := by
    intro N9
    induction N9 using Nat.strongRecOn with
    | _ N9 ih24 =>
      intro v p hv hp hm24
      refine j_iload hx d_Tape_numberIn_24 4 rfl ?_
      refine j_aload_n hx d_Tape_numberIn_26 rfl 0 rfl ?_
      refine j_get hx ck_Tape 2 (by decide) t_54 (by decide) (sh_1 _ _) rfl d_Tape_numberIn_27 ?_
      refine j_icmp_ge (tgt := 90) hx d_Tape_numberIn_30 (by decide) (fun zc30 => ?_) (fun zc30 => ?_)
      · skip
        have ep := (rn_stop (len := s9_1 1 2) (P := isD (s9_1 3)) (p := p) (ns_len zc30)).symm.trans hp
        have ev := (rv_stop (len := s9_1 1 2) (P := isD (s9_1 3)) (g := nuG (s9_1 3)) (v := v) (p := p) (ns_len zc30)).symm.trans hv
        subst ep; subst ev
        refine j_aload_n hx d_Tape_numberIn_90 rfl 0 rfl ?_
        refine j_iload hx d_Tape_numberIn_91 4 rfl ?_
        refine j_callVv hx (c_Tape_moveTo hG s9_1 ((rn (s9_1 1 2) (isD (s9_1 3)) (s9_1 1 3)))) mo_Tape_moveTo mv_Tape_moveTo t_637 (by decide) rfl (by decide) (sh_1 _ _) rfl rfl (Nat.le_of_ble_eq_true rfl) d_Tape_numberIn_93 ?_
        refine j_iload_n hx d_Tape_numberIn_96 rfl 3 rfl ?_
        refine j_iload_n hx d_Tape_numberIn_97 rfl 1 rfl ?_
        refine j_icmp_lt (tgt := 106) hx d_Tape_numberIn_98 (by decide) (fun zc98 => ?_) (fun zc98 => ?_)
        · skip
          refine j_aload_n hx d_Tape_numberIn_106 rfl 0 rfl ?_
          refine j_iconst (v := 2) hx d_Tape_numberIn_107 (by decide) ?_
          refine j_callVv hx (c_Tape_blameItem hG (mvt s9_1 ((rn (s9_1 1 2) (isD (s9_1 3)) (s9_1 1 3)))) 2) mo_Tape_blameItem mv_Tape_blameItem t_715 (by decide) rfl (by decide) (sh_1 _ _) rfl rfl (Nat.le_of_ble_eq_true rfl) d_Tape_numberIn_108 ?_
          refine j_iload_n hx d_Tape_numberIn_111 rfl 3 rfl ?_
          exact j_iret hx hq rfl d_Tape_numberIn_112 (by first | (rw [eg_1]; rfl) | fail) (by first | (rw [eg_1] at *; first | exact (if_pos (Or.inl zc98)).symm | exact (if_pos (Or.inr (i_nle zc103))).symm | exact (if_neg (not_or_lt zc98 zc103)).symm) | fail)
        · skip
          refine j_iload_n hx d_Tape_numberIn_101 rfl 3 rfl ?_
          refine j_iload_n hx d_Tape_numberIn_102 rfl 2 rfl ?_
          refine j_icmp_le (tgt := 111) hx d_Tape_numberIn_103 (by decide) (fun zc103 => ?_) (fun zc103 => ?_)
          · skip
            refine j_iload_n hx d_Tape_numberIn_111 rfl 3 rfl ?_
            exact j_iret hx hq rfl d_Tape_numberIn_112 (by first | (rw [eg_1]; rfl) | fail) (by first | (rw [eg_1] at *; first | exact (if_pos (Or.inl zc98)).symm | exact (if_pos (Or.inr (i_nle zc103))).symm | exact (if_neg (not_or_lt zc98 zc103)).symm) | fail)
          · skip
            refine j_aload_n hx d_Tape_numberIn_106 rfl 0 rfl ?_
            refine j_iconst (v := 2) hx d_Tape_numberIn_107 (by decide) ?_
            refine j_callVv hx (c_Tape_blameItem hG (mvt s9_1 ((rn (s9_1 1 2) (isD (s9_1 3)) (s9_1 1 3)))) 2) mo_Tape_blameItem mv_Tape_blameItem t_715 (by decide) rfl (by decide) (sh_1 _ _) rfl rfl (Nat.le_of_ble_eq_true rfl) d_Tape_numberIn_108 ?_
            refine j_iload_n hx d_Tape_numberIn_111 rfl 3 rfl ?_
            exact j_iret hx hq rfl d_Tape_numberIn_112 (by first | (rw [eg_1]; rfl) | fail) (by first | (rw [eg_1] at *; first | exact (if_pos (Or.inl zc98)).symm | exact (if_pos (Or.inr (i_nle zc103))).symm | exact (if_neg (not_or_lt zc98 zc103)).symm) | fail)
      · skip
        refine j_aload_n hx d_Tape_numberIn_33 rfl 0 rfl ?_
        refine j_get hx ck_Tape 0 (by decide) t_52 (by decide) (sh_1 _ _) rfl d_Tape_numberIn_34 ?_
        refine j_iload hx d_Tape_numberIn_37 4 rfl ?_
        refine j_callVi hx (c_Row_getA hG ir_2 3 rfl s9_1 p) mo_Row_get mv_Row_get t_641 (by decide) rfl (by decide) (sh_2 _ _) rfl rfl (Nat.le_of_ble_eq_true rfl) d_Tape_numberIn_39 ?_
        refine j_bipush (v := 48) hx d_Tape_numberIn_42 (by decide) ?_
        refine j_icmp_lt (tgt := 90) hx d_Tape_numberIn_44 (by decide) (fun zc44 => ?_) (fun zc44 => ?_)
        · skip
          have ep := (rn_stop (len := s9_1 1 2) (P := isD (s9_1 3)) (p := p) (nsD1 zc44)).symm.trans hp
          have ev := (rv_stop (len := s9_1 1 2) (P := isD (s9_1 3)) (g := nuG (s9_1 3)) (v := v) (p := p) (nsD1 zc44)).symm.trans hv
          subst ep; subst ev
          refine j_aload_n hx d_Tape_numberIn_90 rfl 0 rfl ?_
          refine j_iload hx d_Tape_numberIn_91 4 rfl ?_
          refine j_callVv hx (c_Tape_moveTo hG s9_1 ((rn (s9_1 1 2) (isD (s9_1 3)) (s9_1 1 3)))) mo_Tape_moveTo mv_Tape_moveTo t_637 (by decide) rfl (by decide) (sh_1 _ _) rfl rfl (Nat.le_of_ble_eq_true rfl) d_Tape_numberIn_93 ?_
          refine j_iload_n hx d_Tape_numberIn_96 rfl 3 rfl ?_
          refine j_iload_n hx d_Tape_numberIn_97 rfl 1 rfl ?_
          refine j_icmp_lt (tgt := 106) hx d_Tape_numberIn_98 (by decide) (fun zc98 => ?_) (fun zc98 => ?_)
          · skip
            refine j_aload_n hx d_Tape_numberIn_106 rfl 0 rfl ?_
            refine j_iconst (v := 2) hx d_Tape_numberIn_107 (by decide) ?_
            refine j_callVv hx (c_Tape_blameItem hG (mvt s9_1 ((rn (s9_1 1 2) (isD (s9_1 3)) (s9_1 1 3)))) 2) mo_Tape_blameItem mv_Tape_blameItem t_715 (by decide) rfl (by decide) (sh_1 _ _) rfl rfl (Nat.le_of_ble_eq_true rfl) d_Tape_numberIn_108 ?_
            refine j_iload_n hx d_Tape_numberIn_111 rfl 3 rfl ?_
            exact j_iret hx hq rfl d_Tape_numberIn_112 (by first | (rw [eg_1]; rfl) | fail) (by first | (rw [eg_1] at *; first | exact (if_pos (Or.inl zc98)).symm | exact (if_pos (Or.inr (i_nle zc103))).symm | exact (if_neg (not_or_lt zc98 zc103)).symm) | fail)
          · skip
            refine j_iload_n hx d_Tape_numberIn_101 rfl 3 rfl ?_
            refine j_iload_n hx d_Tape_numberIn_102 rfl 2 rfl ?_
            refine j_icmp_le (tgt := 111) hx d_Tape_numberIn_103 (by decide) (fun zc103 => ?_) (fun zc103 => ?_)
            · skip
              refine j_iload_n hx d_Tape_numberIn_111 rfl 3 rfl ?_
              exact j_iret hx hq rfl d_Tape_numberIn_112 (by first | (rw [eg_1]; rfl) | fail) (by first | (rw [eg_1] at *; first | exact (if_pos (Or.inl zc98)).symm | exact (if_pos (Or.inr (i_nle zc103))).symm | exact (if_neg (not_or_lt zc98 zc103)).symm) | fail)
            · skip
              refine j_aload_n hx d_Tape_numberIn_106 rfl 0 rfl ?_
              refine j_iconst (v := 2) hx d_Tape_numberIn_107 (by decide) ?_
              refine j_callVv hx (c_Tape_blameItem hG (mvt s9_1 ((rn (s9_1 1 2) (isD (s9_1 3)) (s9_1 1 3)))) 2) mo_Tape_blameItem mv_Tape_blameItem t_715 (by decide) rfl (by decide) (sh_1 _ _) rfl rfl (Nat.le_of_ble_eq_true rfl) d_Tape_numberIn_108 ?_
              refine j_iload_n hx d_Tape_numberIn_111 rfl 3 rfl ?_
              exact j_iret hx hq rfl d_Tape_numberIn_112 (by first | (rw [eg_1]; rfl) | fail) (by first | (rw [eg_1] at *; first | exact (if_pos (Or.inl zc98)).symm | exact (if_pos (Or.inr (i_nle zc103))).symm | exact (if_neg (not_or_lt zc98 zc103)).symm) | fail)
        · skip
          refine j_aload_n hx d_Tape_numberIn_47 rfl 0 rfl ?_
          refine j_get hx ck_Tape 0 (by decide) t_52 (by decide) (sh_1 _ _) rfl d_Tape_numberIn_48 ?_
          refine j_iload hx d_Tape_numberIn_51 4 rfl ?_
          refine j_callVi hx (c_Row_getA hG ir_2 3 rfl s9_1 p) mo_Row_get mv_Row_get t_641 (by decide) rfl (by decide) (sh_2 _ _) rfl rfl (Nat.le_of_ble_eq_true rfl) d_Tape_numberIn_53 ?_
          refine j_bipush (v := 57) hx d_Tape_numberIn_56 (by decide) ?_
          refine j_icmp_gt (tgt := 90) hx d_Tape_numberIn_58 (by decide) (fun zc58 => ?_) (fun zc58 => ?_)
          · skip
            have ep := (rn_stop (len := s9_1 1 2) (P := isD (s9_1 3)) (p := p) (nsD2 zc58)).symm.trans hp
            have ev := (rv_stop (len := s9_1 1 2) (P := isD (s9_1 3)) (g := nuG (s9_1 3)) (v := v) (p := p) (nsD2 zc58)).symm.trans hv
            subst ep; subst ev
            refine j_aload_n hx d_Tape_numberIn_90 rfl 0 rfl ?_
            refine j_iload hx d_Tape_numberIn_91 4 rfl ?_
            refine j_callVv hx (c_Tape_moveTo hG s9_1 ((rn (s9_1 1 2) (isD (s9_1 3)) (s9_1 1 3)))) mo_Tape_moveTo mv_Tape_moveTo t_637 (by decide) rfl (by decide) (sh_1 _ _) rfl rfl (Nat.le_of_ble_eq_true rfl) d_Tape_numberIn_93 ?_
            refine j_iload_n hx d_Tape_numberIn_96 rfl 3 rfl ?_
            refine j_iload_n hx d_Tape_numberIn_97 rfl 1 rfl ?_
            refine j_icmp_lt (tgt := 106) hx d_Tape_numberIn_98 (by decide) (fun zc98 => ?_) (fun zc98 => ?_)
            · skip
              refine j_aload_n hx d_Tape_numberIn_106 rfl 0 rfl ?_
              refine j_iconst (v := 2) hx d_Tape_numberIn_107 (by decide) ?_
              refine j_callVv hx (c_Tape_blameItem hG (mvt s9_1 ((rn (s9_1 1 2) (isD (s9_1 3)) (s9_1 1 3)))) 2) mo_Tape_blameItem mv_Tape_blameItem t_715 (by decide) rfl (by decide) (sh_1 _ _) rfl rfl (Nat.le_of_ble_eq_true rfl) d_Tape_numberIn_108 ?_
              refine j_iload_n hx d_Tape_numberIn_111 rfl 3 rfl ?_
              exact j_iret hx hq rfl d_Tape_numberIn_112 (by first | (rw [eg_1]; rfl) | fail) (by first | (rw [eg_1] at *; first | exact (if_pos (Or.inl zc98)).symm | exact (if_pos (Or.inr (i_nle zc103))).symm | exact (if_neg (not_or_lt zc98 zc103)).symm) | fail)
            · skip
              refine j_iload_n hx d_Tape_numberIn_101 rfl 3 rfl ?_
              refine j_iload_n hx d_Tape_numberIn_102 rfl 2 rfl ?_
              refine j_icmp_le (tgt := 111) hx d_Tape_numberIn_103 (by decide) (fun zc103 => ?_) (fun zc103 => ?_)
              · skip
                refine j_iload_n hx d_Tape_numberIn_111 rfl 3 rfl ?_
                exact j_iret hx hq rfl d_Tape_numberIn_112 (by first | (rw [eg_1]; rfl) | fail) (by first | (rw [eg_1] at *; first | exact (if_pos (Or.inl zc98)).symm | exact (if_pos (Or.inr (i_nle zc103))).symm | exact (if_neg (not_or_lt zc98 zc103)).symm) | fail)
              · skip
                refine j_aload_n hx d_Tape_numberIn_106 rfl 0 rfl ?_
                refine j_iconst (v := 2) hx d_Tape_numberIn_107 (by decide) ?_
                refine j_callVv hx (c_Tape_blameItem hG (mvt s9_1 ((rn (s9_1 1 2) (isD (s9_1 3)) (s9_1 1 3)))) 2) mo_Tape_blameItem mv_Tape_blameItem t_715 (by decide) rfl (by decide) (sh_1 _ _) rfl rfl (Nat.le_of_ble_eq_true rfl) d_Tape_numberIn_108 ?_
                refine j_iload_n hx d_Tape_numberIn_111 rfl 3 rfl ?_
                exact j_iret hx hq rfl d_Tape_numberIn_112 (by first | (rw [eg_1]; rfl) | fail) (by first | (rw [eg_1] at *; first | exact (if_pos (Or.inl zc98)).symm | exact (if_pos (Or.inr (i_nle zc103))).symm | exact (if_neg (not_or_lt zc98 zc103)).symm) | fail)
          · skip
            refine j_iload_n hx d_Tape_numberIn_61 rfl 3 rfl ?_
            refine j_bipush (v := 10) hx d_Tape_numberIn_62 (by decide) ?_
            refine j_imul hx d_Tape_numberIn_64 ?_
            refine j_aload_n hx d_Tape_numberIn_65 rfl 0 rfl ?_
            refine j_get hx ck_Tape 0 (by decide) t_52 (by decide) (sh_1 _ _) rfl d_Tape_numberIn_66 ?_
            refine j_iload hx d_Tape_numberIn_69 4 rfl ?_
            refine j_callVi hx (c_Row_getA hG ir_2 3 rfl s9_1 p) mo_Row_get mv_Row_get t_641 (by decide) rfl (by decide) (sh_2 _ _) rfl rfl (Nat.le_of_ble_eq_true rfl) d_Tape_numberIn_71 ?_
            refine j_iadd hx d_Tape_numberIn_74 ?_
            refine j_bipush (v := 48) hx d_Tape_numberIn_75 (by decide) ?_
            refine j_isub hx d_Tape_numberIn_77 ?_
            refine j_ldc (v := 1000000) hx t_743 d_Tape_numberIn_78 ?_
            refine j_mmin hx t_744 (by decide) (Nat.le_of_ble_eq_true rfl) d_Tape_numberIn_80 ?_
            refine j_istore_n hx [(3, .int (if 1000000 < (((v * 10) + (rg (s9_1 (2 + 1)) 600 p)) - 48) then 1000000 else (((v * 10) + (rg (s9_1 (2 + 1)) 600 p)) - 48))), (0, .ref (G.1 1)), (1, .int least), (2, .int most), (4, .int p)] d_Tape_numberIn_83 rfl (by decide) rfl ?_
            refine j_iinc hx [(4, .int (p + 1)), (3, .int (if 1000000 < (((v * 10) + (rg (s9_1 (2 + 1)) 600 p)) - 48) then 1000000 else (((v * 10) + (rg (s9_1 (2 + 1)) 600 p)) - 48))), (0, .ref (G.1 1)), (1, .int least), (2, .int most)] d_Tape_numberIn_84 4 rfl rfl (by decide) rfl ?_
            refine j_goto (tgt := 24) hx d_Tape_numberIn_87 (by decide) ?_
            refine J.lsub (ls' := [(0, .ref (G.1 1)), (1, .int least), (2, .int most), (3, .int (if 1000000 < (((v * 10) + (rg (s9_1 (2 + 1)) 600 p)) - 48) then 1000000 else (((v * 10) + (rg (s9_1 (2 + 1)) 600 p)) - 48))), (4, .int (p + 1))]) [2, 3, 4, 1, 0] rfl ?_
            refine J.to ?_ ?_ (ih24 _ ?_ (nuG (s9_1 3) v p) (p + 1) (hv ▸ (rv_go (i_nle zc30) (isD_t zc44 zc58)).symm) (hp ▸ (rn_go (i_nle zc30) (isD_t zc44 zc58)).symm) rfl)
            · first | (rfl) | fail
            · first | (rfl) | fail
            · first | (exact rn_dec (i_nle zc30) hm24) | fail
  refine J.lsub (ls' := [(0, .ref (G.1 1)), (1, .int least), (2, .int most), (3, .int 0), (4, .int (s9_1 1 3))]) [2, 3, 4, 1, 0] rfl ?_
  refine J.to ?_ ?_ (hl24 _ 0 (s9_1 1 3) rfl rfl rfl)
  · first | (rfl) | fail
  · first | (rfl) | fail

