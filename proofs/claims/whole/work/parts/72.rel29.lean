/-! ===== a new coast on both sides ===== -/
theorem cpr_in {s : St} {d q n D S k : Nat} (hD : D = d + 1) (hS : S = q + 1) (hdq : d ≠ q) (hk : k < n) (hn : n < 50000) : cpr s d q n D k = s S k := by
  subst hD; subst hS
  have := cpy_in (σ := s) (o := d) (n := n) (q := q) (m := n) (A := 0) (B := 0) (N := n) (c := Int32.ofNat n) (ct_nI (by omega)) hdq (by omega) (by omega) hn hn k hk
  rw [Nat.zero_add] at this
  exact this
theorem cpr_o {s : St} {d q n o : Nat} (h : o ≠ d + 1) : cpr s d q n o = s o := by unfold cpr; exact cpy_o h
theorem bc_6 {s : St} {k : Nat} (hk : k < 6) : bcS s 6 k = s 29 k := by
  unfold bcS bc4 bc3 bc2 bc1
  rw [up_o (by decide), cpr_o (by decide), cpr_o (by decide), cpr_o (by decide), cpr_o (by decide), cpr_o (by decide), cpr_o (by decide), cpr_o (by decide), cpr_o (by decide), cpr_o (by decide), cpr_o (by decide), cpr_in (D := 6) (S := 29) (by decide) (by decide) (by decide) hk (by decide)]
theorem bc_8 {s : St} {k : Nat} (hk : k < 12) : bcS s 8 k = s 31 k := by
  unfold bcS bc4 bc3 bc2 bc1
  rw [up_o (by decide), cpr_o (by decide), cpr_o (by decide), cpr_o (by decide), cpr_o (by decide), cpr_o (by decide), cpr_o (by decide), cpr_o (by decide), cpr_o (by decide), cpr_o (by decide), cpr_in (D := 8) (S := 31) (by decide) (by decide) (by decide) hk (by decide), cpr_o (by decide)]
theorem bc_10 {s : St} {k : Nat} (hk : k < 6) : bcS s 10 k = s 33 k := by
  unfold bcS bc4 bc3 bc2 bc1
  rw [up_o (by decide), cpr_o (by decide), cpr_o (by decide), cpr_o (by decide), cpr_o (by decide), cpr_o (by decide), cpr_o (by decide), cpr_o (by decide), cpr_o (by decide), cpr_in (D := 10) (S := 33) (by decide) (by decide) (by decide) hk (by decide), cpr_o (by decide), cpr_o (by decide)]
theorem bc_12 {s : St} {k : Nat} (hk : k < 6) : bcS s 12 k = s 35 k := by
  unfold bcS bc4 bc3 bc2 bc1
  rw [up_o (by decide), cpr_o (by decide), cpr_o (by decide), cpr_o (by decide), cpr_o (by decide), cpr_o (by decide), cpr_o (by decide), cpr_o (by decide), cpr_in (D := 12) (S := 35) (by decide) (by decide) (by decide) hk (by decide), cpr_o (by decide), cpr_o (by decide), cpr_o (by decide)]
theorem bc_14 {s : St} {k : Nat} (hk : k < 3) : bcS s 14 k = s 37 k := by
  unfold bcS bc4 bc3 bc2 bc1
  rw [up_o (by decide), cpr_o (by decide), cpr_o (by decide), cpr_o (by decide), cpr_o (by decide), cpr_o (by decide), cpr_o (by decide), cpr_in (D := 14) (S := 37) (by decide) (by decide) (by decide) hk (by decide), cpr_o (by decide), cpr_o (by decide), cpr_o (by decide), cpr_o (by decide)]
theorem bc_16 {s : St} {k : Nat} (hk : k < 3) : bcS s 16 k = s 39 k := by
  unfold bcS bc4 bc3 bc2 bc1
  rw [up_o (by decide), cpr_o (by decide), cpr_o (by decide), cpr_o (by decide), cpr_o (by decide), cpr_o (by decide), cpr_in (D := 16) (S := 39) (by decide) (by decide) (by decide) hk (by decide), cpr_o (by decide), cpr_o (by decide), cpr_o (by decide), cpr_o (by decide), cpr_o (by decide)]
theorem bc_18 {s : St} {k : Nat} (hk : k < 6) : bcS s 18 k = s 41 k := by
  unfold bcS bc4 bc3 bc2 bc1
  rw [up_o (by decide), cpr_o (by decide), cpr_o (by decide), cpr_o (by decide), cpr_o (by decide), cpr_in (D := 18) (S := 41) (by decide) (by decide) (by decide) hk (by decide), cpr_o (by decide), cpr_o (by decide), cpr_o (by decide), cpr_o (by decide), cpr_o (by decide), cpr_o (by decide)]
theorem bc_20 {s : St} {k : Nat} (hk : k < 6) : bcS s 20 k = s 43 k := by
  unfold bcS bc4 bc3 bc2 bc1
  rw [up_o (by decide), cpr_o (by decide), cpr_o (by decide), cpr_o (by decide), cpr_in (D := 20) (S := 43) (by decide) (by decide) (by decide) hk (by decide), cpr_o (by decide), cpr_o (by decide), cpr_o (by decide), cpr_o (by decide), cpr_o (by decide), cpr_o (by decide), cpr_o (by decide)]
theorem bc_22 {s : St} {k : Nat} (hk : k < 6) : bcS s 22 k = s 45 k := by
  unfold bcS bc4 bc3 bc2 bc1
  rw [up_o (by decide), cpr_o (by decide), cpr_o (by decide), cpr_in (D := 22) (S := 45) (by decide) (by decide) (by decide) hk (by decide), cpr_o (by decide), cpr_o (by decide), cpr_o (by decide), cpr_o (by decide), cpr_o (by decide), cpr_o (by decide), cpr_o (by decide), cpr_o (by decide)]
theorem bc_24 {s : St} {k : Nat} (hk : k < 6) : bcS s 24 k = s 47 k := by
  unfold bcS bc4 bc3 bc2 bc1
  rw [up_o (by decide), cpr_o (by decide), cpr_in (D := 24) (S := 47) (by decide) (by decide) (by decide) hk (by decide), cpr_o (by decide), cpr_o (by decide), cpr_o (by decide), cpr_o (by decide), cpr_o (by decide), cpr_o (by decide), cpr_o (by decide), cpr_o (by decide), cpr_o (by decide)]
theorem bc_26 {s : St} {k : Nat} (hk : k < 6) : bcS s 26 k = s 49 k := by
  unfold bcS bc4 bc3 bc2 bc1
  rw [up_o (by decide), cpr_in (D := 26) (S := 49) (by decide) (by decide) (by decide) hk (by decide), cpr_o (by decide), cpr_o (by decide), cpr_o (by decide), cpr_o (by decide), cpr_o (by decide), cpr_o (by decide), cpr_o (by decide), cpr_o (by decide), cpr_o (by decide), cpr_o (by decide)]
theorem bc_sg {s : St} : bcS s 4 11 = s 27 11 := by
  unfold bcS; rw [up_rd]; unfold bc4 bc3 bc2 bc1
  rw [cpr_o (by decide), cpr_o (by decide), cpr_o (by decide), cpr_o (by decide), cpr_o (by decide), cpr_o (by decide), cpr_o (by decide), cpr_o (by decide), cpr_o (by decide), cpr_o (by decide), cpr_o (by decide)]
theorem bc_o {s : St} {q : Nat} (h : q < 4 ∨ 27 ≤ q) : bcS s q = s q := by
  unfold bcS bc4 bc3 bc2 bc1
  rw [up_o (by omega), cpr_o (by omega), cpr_o (by omega), cpr_o (by omega), cpr_o (by omega), cpr_o (by omega), cpr_o (by omega), cpr_o (by omega), cpr_o (by omega), cpr_o (by omega), cpr_o (by omega), cpr_o (by omega)]
theorem emt_e {s : St} {o j : Nat} {kd num : Int32} (h : s o 4 = nI j) (hj : j < 150) : emt s o kd num = up (up (up s (o + 2) j kd) (o + 4) j num) o 4 (nI (j + 1)) := by
  unfold emt
  rw [h, rs_nI hj (by decide)]
  have e : up s (o + 1 + 1) j kd o 4 = nI j := by rw [up_o (by omega)]; exact h
  rw [e, rs_nI hj (by decide)]
  have e2 : up (up s (o + 1 + 1) j kd) (o + 3 + 1) j num o 4 = nI j := by rw [up_o (by omega)]; exact e
  rw [e2, nI_s]
theorem lrs_e {s : St} : (lrs s 50 50 4 = 3 ∧ lrs s 50 52 0 = 0 ∧ lrs s 50 52 1 = 11 ∧ lrs s 50 54 1 = 1 ∧ lrs s 50 52 2 = 13) ∧ ∀ q, q ≠ 50 → q ≠ 52 → q ≠ 54 → lrs s 50 q = s q := by
  have h0 : (up s 50 4 0) 50 4 = nI 0 := up_rd
  have e1 := emt_e (o := 50) (kd := 0) (num := 0) h0 (by decide)
  have h1 : emt (up s 50 4 0) 50 0 0 50 4 = nI 1 := by rw [e1, up_rd]
  have e2 := emt_e (o := 50) (kd := 11) (num := 1) h1 (by decide)
  have h2 : emt (emt (up s 50 4 0) 50 0 0) 50 11 1 50 4 = nI 2 := by rw [e2, up_rd]
  have e3 := emt_e (o := 50) (kd := 13) (num := 0) h2 (by decide)
  unfold lrs
  rw [e3, e2, e1]
  refine ⟨⟨?_, ?_, ?_, ?_, ?_⟩, fun q a b c => ?_⟩
  · rw [up_rd]; rfl
  · rw [up_o (by decide), up_o (by decide), up_k (by decide), up_o (by decide), up_o (by decide), up_k (by decide), up_o (by decide), up_o (by decide), up_rd]
  · rw [up_o (by decide), up_o (by decide), up_k (by decide), up_o (by decide), up_o (by decide), up_rd]
  · rw [up_o (by decide), up_k (by decide), up_o (by decide), up_o (by decide), up_rd]
  · rw [up_o (by decide), up_o (by decide), up_rd]
  · rw [up_o a, up_o c, up_o b, up_o a, up_o c, up_o b, up_o a, up_o c, up_o b, up_o a]
/-- the class's row of nights after a coast -/
theorem nrs_row {s : St} : ∀ n, n ≤ 3 → (∀ k, k < 29 → nrs s n 83 k = if k = 6 then 1 <<< (cM s 1 &&& 31) - 1 else if 8 ≤ k ∧ k < 8 + n then s 14 (k - 8) else 0) := by
  intro n
  induction n with
  | zero =>
    intro _ k hk
    have e : nrs s 0 = rs (fl s 83 29 (fun _ => 0)) 82 29 6 (1 <<< (cM (fl s 83 29 (fun _ => 0)) 1 &&& 31) - 1) := rfl
    have ec : cM (fl s 83 29 (fun _ => 0)) 1 = cM s 1 := by unfold cM; rw [fl_o (by decide)]
    rw [e, ec, show (6 : Int32) = nI 6 from rfl, rs_nI (by decide) (by decide)]
    by_cases z : k = 6
    · rw [if_pos z, z]; exact up_rd
    · rw [if_neg z, if_neg (by omega), up_k z, fl_in hk]
  | succ n ih =>
    intro hn k hk
    have e : nrs s (n + 1) = rs (nrs s n) 82 29 (8 + nI n) (dX (nrs s n) (nI n)) := rfl
    rw [e, show (8 : Int32) = nI 8 from rfl, znI_add (by omega), rs_nI (by omega) (by decide)]
    by_cases z : k = 8 + n
    · rw [z, if_neg (by omega), if_pos (by omega)]
      show up (nrs s n) 83 (8 + n) _ 83 (8 + n) = _
      rw [up_rd]; unfold dX; rw [nrs_o (by decide), rg_nI (by omega) (by decide), show 8 + n - 8 = n by omega]
    · show up (nrs s n) 83 (8 + n) _ 83 k = _
      rw [up_k z, ih (by omega) k hk]
      by_cases y : k = 6
      · rw [if_pos y, if_pos y]
      · rw [if_neg y, if_neg y]
        by_cases x : 8 ≤ k ∧ k < 8 + n
        · rw [if_pos x, if_pos (by omega)]
        · rw [if_neg x, if_neg (by omega)]
/-- the reference's -/
theorem ba9_row {s : St} : ∀ n, n ≤ 3 → ∀ k, ba9 s n 122 k = if 1 ≤ k ∧ k < 1 + n then s (152 + (k - 1)) 0 else s 122 k := by
  intro n
  induction n with
  | zero => intro _ k; rw [if_neg (by omega)]; rfl
  | succ n ih =>
    intro hn k
    show up (ba9 s n) 122 (1 + n) (ba9 s n (152 + n) 0) 122 k = _
    by_cases z : k = 1 + n
    · rw [z, up_rd, if_pos (by omega), ba9_o (by omega), show 1 + n - 1 = n by omega]
    · rw [up_k z, ih (by omega) k]
      by_cases x : 1 ≤ k ∧ k < 1 + n
      · rw [if_pos x, if_pos (by omega)]
      · rw [if_neg x, if_neg (by omega)]
theorem lay_in {s : St} {qa qb w n i k : Nat} (hi : i < n) (hk : k < w) : lay s qa qb w n (qb + i) k = s (qa + i) k := by
  unfold lay; rw [if_pos ⟨⟨by omega, by omega⟩, hk⟩, show qb + i - qb = i by omega]
theorem tl_nn {s t : St} {k : Nat} (h : s 115 k = t 114 k) : tl s k = nn t k := by unfold tl nn ct; rw [h]
/-- what the reference copies -/
theorem ba_e {s : St} (hb : rtW (s 114)) :
    ((∀ k, k < 6 → baS s 115 k = s 114 k) ∧ (∀ c, c < nn s 0 → baS s 117 c = s 116 c) ∧ (∀ c, c < nn s 4 → baS s 119 c = s 118 c)) ∧
    ((∀ j k, j < nn s 1 → k < 2 → baS s (143 + j) k = s (137 + j) k) ∧ (∀ j k, j < nn s 2 → k < 2 → baS s (152 + j) k = s (149 + j) k) ∧ (∀ j k, j < nn s 3 → k < 4 → baS s (161 + j) k = s (155 + j) k)) ∧
    ((∀ k, k < 31 → baS s 122 k = if k = 29 then -1 else if 1 ≤ k ∧ k < 1 + nn s 2 then s (149 + (k - 1)) 0 else if k = 0 then 1 <<< (s 114 1 &&& 31) - 1 else 0) ∧
    (baS s 111 23 = 0 ∧ baS s 111 37 = 0 ∧ baS s 111 38 = 0 ∧ baS s 111 39 = 0 ∧ baS s 111 40 = 0)) ∧
    (∀ o, o ≠ 111 → o ≠ 115 → o ≠ 117 → o ≠ 119 → o ≠ 122 → (o < 143 ∨ 167 ≤ o) → baS s o = s o) ∧ ∀ f, f ≠ 23 → f ≠ 37 → f ≠ 38 → f ≠ 39 → f ≠ 40 → baS s 111 f = s 111 f := by
  obtain ⟨q0, q1, q2, q3, q4⟩ := hb
  have h115 : ∀ k, k < 6 → ba1 s 115 k = s 114 k := fun k hk => ba1_115 hk
  have e2 : ba2 (ba1 s) = fl (ba1 s) 117 (nn s 0) (s 116) := by
    unfold ba2; rw [h115 0 (by decide), show ba1 s 116 = s 116 by unfold ba1; exact fl_o (by decide)]; rfl
  have e3 : ba3 (ba2 (ba1 s)) = fl (ba2 (ba1 s)) 119 (nn s 4) (s 118) := by
    unfold ba3; rw [ba2_o (by decide), h115 4 (by decide), ba2_o (by decide), show ba1 s 118 = s 118 by unfold ba1; exact fl_o (by decide)]; rfl
  have b3 : ∀ o, o ≠ 115 → o ≠ 117 → o ≠ 119 → ba3 (ba2 (ba1 s)) o = s o := fun o a b c => by rw [ba3_o c, ba2_o b]; unfold ba1; exact fl_o a
  have e4 : ba4 (ba3 (ba2 (ba1 s))) = lay (ba3 (ba2 (ba1 s))) 137 143 2 (nn s 1) := by
    unfold ba4; rw [ba3_o (by decide), ba2_o (by decide), h115 1 (by decide)]; rfl
  have e5 : ba5 (ba4 (ba3 (ba2 (ba1 s)))) = lay (ba4 (ba3 (ba2 (ba1 s)))) 149 152 2 (nn s 2) := by
    unfold ba5; rw [ba4_115, ba3_o (by decide), ba2_o (by decide), h115 2 (by decide)]; rfl
  have e6 : ba6s s = lay (ba5 (ba4 (ba3 (ba2 (ba1 s))))) 155 161 4 (nn s 3) := by
    unfold ba6s ba6; rw [ba5_115, ba4_115, ba3_o (by decide), ba2_o (by decide), h115 3 (by decide)]; rfl
  have n1 : nn s 1 ≤ 6 := by unfold nn; omega
  have n2 : nn s 2 ≤ 3 := by unfold nn; omega
  have n3 : nn s 3 ≤ 6 := by unfold nn; omega
  have s4 : ∀ o, (o < 143 ∨ 149 ≤ o) → ba4 (ba3 (ba2 (ba1 s))) o = ba3 (ba2 (ba1 s)) o := fun o ho => by rw [e4]; exact lay_o (by omega)
  have s5 : ∀ o, (o < 152 ∨ 155 ≤ o) → ba5 (ba4 (ba3 (ba2 (ba1 s)))) o = ba4 (ba3 (ba2 (ba1 s))) o := fun o ho => by rw [e5]; exact lay_o (by omega)
  have s6 : ∀ o, (o < 161 ∨ 167 ≤ o) → ba6s s o = ba5 (ba4 (ba3 (ba2 (ba1 s)))) o := fun o ho => by rw [e6]; exact lay_o (by omega)
  have s9 : ∀ o, o ≠ 111 → o ≠ 122 → baS s o = ba6s s o := fun o a b => by
    unfold baS ba11 ba10; rw [up_o a, up_o a, up_o a, up_o a, up_o a, up_o b, ba9_o b]; unfold ba8s ba8 ba7; rw [up_o b, fl_o b]
  have c6 : ∀ o, o ≠ 115 → o ≠ 117 → o ≠ 119 → (o < 143 ∨ 167 ≤ o) → ba6s s o = s o := fun o a b c d => by rw [s6 o (by omega), s5 o (by omega), s4 o (by omega), b3 o a b c]
  have r8 : ∀ k, k < 31 → ba8s s 122 k = if k = 0 then 1 <<< (s 114 1 &&& 31) - 1 else 0 := fun k hk => by
    unfold ba8s ba8
    have e : ba7 (ba6s s) 115 1 = s 114 1 := by unfold ba7; rw [fl_o (by decide), ba6s_115]; exact h115 1 (by decide)
    rw [e]
    by_cases z : k = 0
    · rw [if_pos z, z, up_rd]
    · rw [if_neg z, up_k z]; unfold ba7; rw [fl_in hk]
  have o8 : ∀ o, o ≠ 122 → ba8s s o = ba6s s o := fun o b => by unfold ba8s ba8 ba7; rw [up_o b, fl_o b]
  have ct2 : ct (ba8s s 115 2) = nn s 2 := by rw [ba8s_115, h115 2 (by decide)]; rfl
  refine ⟨⟨fun k hk => ?_, fun c hc => ?_, fun c hc => ?_⟩, ⟨fun j k hj hk => ?_, fun j k hj hk => ?_, fun j k hj hk => ?_⟩, ⟨fun k hk => ?_, ?_, ?_, ?_, ?_, ?_⟩, fun o a b c d e f => ?_, fun f a b c d e => ?_⟩
  · rw [s9 115 (by decide) (by decide), ba6s_115]; exact h115 k hk
  · rw [s9 117 (by decide) (by decide), s6 117 (by decide), s5 117 (by decide), s4 117 (by decide), ba3_o (by decide), e2, fl_in hc]
  · rw [s9 119 (by decide) (by decide), s6 119 (by decide), s5 119 (by decide), s4 119 (by decide), e3, fl_in hc]
  · rw [s9 _ (by omega) (by omega), s6 _ (by omega), s5 _ (by omega), e4, lay_in hj hk, b3 _ (by omega) (by omega) (by omega)]
  · rw [s9 _ (by omega) (by omega), s6 _ (by omega), e5, lay_in hj hk, s4 _ (by omega), b3 _ (by omega) (by omega) (by omega)]
  · rw [s9 _ (by omega) (by omega), e6, lay_in hj hk, s5 _ (by omega), s4 _ (by omega), b3 _ (by omega) (by omega) (by omega)]
  · unfold baS ba11; rw [up_o (by decide), up_o (by decide), up_o (by decide), up_o (by decide), up_o (by decide)]; unfold ba10
    by_cases z : k = 29
    · rw [if_pos z, z, up_rd]
    · rw [if_neg z, up_k z, ct2, ba9_row _ n2]
      by_cases y : 1 ≤ k ∧ k < 1 + nn s 2
      · rw [if_pos y, if_pos y, o8 _ (by omega), s6 _ (by omega), e5, lay_in (by omega) (by decide), s4 _ (by omega), b3 _ (by omega) (by omega) (by omega)]
      · rw [if_neg y, if_neg y]; exact r8 k hk
  · unfold baS ba11; rw [up_k (by decide), up_k (by decide), up_k (by decide), up_k (by decide), up_rd]
  · unfold baS ba11; rw [up_k (by decide), up_k (by decide), up_k (by decide), up_rd]
  · unfold baS ba11; rw [up_k (by decide), up_k (by decide), up_rd]
  · unfold baS ba11; rw [up_k (by decide), up_rd]
  · unfold baS ba11; rw [up_rd]
  · rw [s9 o a e]; exact c6 o b c d f
  · unfold baS ba11 ba10; rw [up_k e, up_k d, up_k c, up_k b, up_k a, up_o (by decide), ba9_o (by decide), o8 111 (by decide)]
    rw [c6 111 (by decide) (by decide) (by decide) (by decide)]
