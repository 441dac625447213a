/-! ===== bits; the memo of known views ===== -/
abbrev gB (x : Int32) (b : Nat) : Bool := x.toBitVec.getLsbD b
theorem gB_or {x y : Int32} {b : Nat} : gB (x ||| y) b = (gB x b || gB y b) := by unfold gB; rw [Int32.toBitVec_or, BitVec.getLsbD_or]
theorem gB_and {x y : Int32} {b : Nat} : gB (x &&& y) b = (gB x b && gB y b) := by unfold gB; rw [Int32.toBitVec_and, BitVec.getLsbD_and]
theorem gB_0 {b : Nat} : gB 0 b = false := by unfold gB; exact BitVec.getLsbD_zero
theorem gB_ext {x y : Int32} (h : ∀ b, b < 32 → gB x b = gB y b) : x = y := Int32.toBitVec_inj.mp (BitVec.eq_of_getLsbD_eq (fun i hi => h i hi))
theorem gB_sh9 : ∀ b c : Fin 32, gB (1 <<< (nI b.val &&& 31)) c.val = decide (c.val = b.val) := by decide +kernel
theorem gB_sh {b c : Nat} (hb : b < 32) (hc : c < 32) : gB (1 <<< (nI b &&& 31)) c = decide (c = b) := gB_sh9 ⟨b, hb⟩ ⟨c, hc⟩
theorem an_z {x : Int32} {b : Nat} (hb : b < 32) : (x &&& (1 <<< (nI b &&& 31)) = 0) ↔ gB x b = false := by
  constructor
  · intro h
    have e : gB (x &&& (1 <<< (nI b &&& 31))) b = false := by rw [h]; exact gB_0
    rw [gB_and, gB_sh hb hb, decide_eq_true rfl, Bool.and_true] at e
    exact e
  · intro h
    apply gB_ext
    intro c hc
    rw [gB_and, gB_sh hb hc, gB_0]
    by_cases q : c = b
    · rw [q, h]; rfl
    · rw [decide_eq_false q, Bool.and_false]
theorem sm9 : ∀ m : Fin 32, ((nI m.val &&& 31 : Int32).toBitVec.smod 32#32).toNat = m.val := by decide +kernel
theorem one_b {y : Int32} : (y &&& 1 = 1) ↔ gB y 0 = true := by
  have h1 : ∀ c : Fin 32, gB (1 : Int32) c.val = decide (c.val = 0) := by decide +kernel
  constructor
  · intro h
    have e : gB (y &&& 1) 0 = true := by rw [h]; rfl
    rw [gB_and, h1 ⟨0, by decide⟩] at e
    rcases Bool.and_eq_true_iff.mp e with ⟨a, -⟩
    exact a
  · intro h
    apply gB_ext
    intro c hc
    rw [gB_and, h1 ⟨c, hc⟩]
    by_cases q : c = 0
    · subst q; rw [h]; rfl
    · rw [decide_eq_false q, Bool.and_false]
theorem hB_g {x : Int32} {m : Nat} (hm : m < 32) : hB x (nI m) ↔ gB x m = true := by
  unfold hB
  rw [one_b]
  unfold gB
  rw [Int32.toBitVec_shiftRight, BitVec.getLsbD_sshiftRight']
  have e : ((nI m &&& 31 : Int32).toBitVec.smod 32#32).toNat = m := sm9 ⟨m, hm⟩
  rw [show ((nI m &&& 31 : Int32).toBitVec.smod 32) = ((nI m &&& 31 : Int32).toBitVec.smod 32#32) from rfl, e, if_pos (by omega), Nat.add_zero]
  simp
theorem bt_g {Q : Nat → Prop} [DecidablePred Q] : ∀ n, n ≤ 32 → ∀ k, k < 32 → (gB (bt Q n) k = true ↔ k < n ∧ Q k) := by
  intro n
  induction n with
  | zero => intro _ k hk; rw [show bt Q 0 = 0 from rfl, gB_0]; exact ⟨fun z => absurd z (by decide), fun z => absurd z.1 (Nat.not_lt_zero k)⟩
  | succ n ih =>
    intro hn k hk
    rw [bt_s, gB_or]
    by_cases p : Q n
    · rw [if_pos p, gB_sh (by omega) hk, Bool.or_eq_true, ih (by omega) k hk, decide_eq_true_iff]
      constructor
      · rintro (⟨a, b⟩ | a)
        · exact ⟨by omega, b⟩
        · exact ⟨by omega, by rw [a]; exact p⟩
      · rintro ⟨a, b⟩
        by_cases q : k = n
        · exact Or.inr q
        · exact Or.inl ⟨by omega, b⟩
    · rw [if_neg p, gB_0, Bool.or_false, ih (by omega) k hk]
      constructor
      · rintro ⟨a, b⟩; exact ⟨by omega, b⟩
      · rintro ⟨a, b⟩
        by_cases q : k = n
        · rw [q] at b; exact absurd b p
        · exact ⟨by omega, b⟩
/-- what the b-th view is: flashes seen, minutes in the dark -/
def sO (b : Nat) : Int32 := if b < 12 then 0 else nI (b - 11)
def dO (b : Nat) : Int32 := if b < 12 then nI b else 0
abbrev AN (σ : St) (n9 fg : Int32) (i m b : Nat) : Prop := 0 < mbV (knS σ i (sO b) (dO b) (nI m) (nI m) n9 fg)
/-- the memo: what is known is known as it is -/
def MO (σ : St) (n9 fg : Int32) (s : St) : Prop := ∀ i m b, i < tl σ 3 → m < tl σ 0 → b < 32 → (gB (s 92 (12 * i + m)) b = true ↔ gB (s 90 (12 * i + m)) b = true ∧ AN σ n9 fg i m b)
/-- as the law is asked: of the ships, the law's text, the night -/
def BS (σ : St) (n9 fg : Int32) (s : St) : Prop := (∀ o, o = 20 ∨ o = 22 ∨ o = 24 ∨ o = 50 ∨ o = 52 ∨ o = 54 → s o = σ o) ∧ s 56 7 = n9 ∧ s 56 8 = fg
theorem law_k {σ s : St} (h : RC σ) (hL : LW σ σ) (hO : lawOK σ) {n9 fg : Int32} (hB : BS σ n9 fg s) {i : Nat} (hi : i < tl σ 3) {seen dark m c : Int32} : lwP (tls s (nI i) seen dark m c) ↔ 0 < mbV (knS σ i seen dark m c n9 fg) := by
  have qk : sx σ (knS σ i seen dark m c n9 fg) := (sq.rf.kn).x
  have hW : LW (tls s (nI i) seen dark m c) (knS σ i seen dark m c n9 fg) := by
    refine LW_eq hL ?_ ?_ ?_ (qk.2 23 (by decide) (by decide)) (fun k _ => qk.1 _ (by omega) (by omega) (by omega))
    all_goals rw [tls_o (by decide)]; exact hB.1 _ (by decide)
  have hK : LK (tls s (nI i) seen dark m c) (knS σ i seen dark m c n9 fg) := by
    refine kn_LK ?_ ?_ ?_ hB.2.1 hB.2.2
    · unfold sT; rw [hB.1 22 (by decide)]; exact h.s2 hi
    · unfold sD; rw [hB.1 24 (by decide)]; exact h.s3 hi
    · unfold sW; rw [hB.1 20 (by decide)]; exact h.s1 hi
  unfold lwP
  rw [law_ans hW (qk.law hO) hK]
theorem ps2_g {s : St} {i m : Nat} {w : Int32} (hi : i < 6) (hm : m < 12) : ps2 s (nI i) (nI m) w = tls (up s 90 (12 * i + m) (s 90 (12 * i + m) ||| w)) (nI i) (s 86 m) (s 88 m) (nI m) (nI m) := by
  unfold ps2
  rw [ix12 hi hm, rg_nI (by omega) (by decide), rs_nI (by omega) (by decide), rg_nI (by omega) (by decide), rg_nI (by omega) (by decide), up_o (by decide)]
theorem psT_g {s : St} {i m : Nat} {w : Int32} (hi : i < 6) (hm : m < 12) (h : s 90 (12 * i + m) &&& w = 0) : psT s (nI i) (nI m) w = up (lwS (ps2 s (nI i) (nI m) w)) 92 (12 * i + m) (s 92 (12 * i + m) ||| (if b2 (lwP (ps2 s (nI i) (nI m) w)) = 0 then 0 else w)) := by
  have e92 : rg (ps2 s (nI i) (nI m) w 92) 72 (nI i * 12 + nI m) = s 92 (12 * i + m) := by
    rw [ps2_g hi hm, tls_o (by decide), up_o (by decide), ix12 hi hm, rg_nI (by omega) (by decide)]
  unfold psT
  rw [if_pos (by rw [ix12 hi hm, rg_nI (by omega) (by decide)]; exact h), e92, ix12 hi hm, rs_nI (by omega) (by decide)]
theorem psT_u {s : St} {i m : Nat} {w : Int32} (hi : i < 6) (hm : m < 12) (h : ¬ s 90 (12 * i + m) &&& w = 0) : psT s (nI i) (nI m) w = s := by
  unfold psT
  rw [if_neg (by rw [ix12 hi hm, rg_nI (by omega) (by decide)]; exact h)]
/-- the view of the m-th minute -/
theorem view_e {τ s : St} (hP : PS τ s) (hb : tl τ 0 ≤ 12) {m : Nat} (hm : m < tl τ 0) (hs : ∃ k, k ≤ 15 ∧ msb τ 122 (nI m) (nI m) = nI k) : ∃ b, b < 32 ∧ psV s (nI m) = 1 <<< (nI b &&& 31) ∧ s 86 m = sO b ∧ s 88 m = dO b := by
  obtain ⟨k, hk, ek⟩ := hs
  have e86 := (hP.2.1 m hm).1
  have e88 := (hP.2.1 m hm).2
  have hd : ∀ m, m < 100 → ∃ l, l ≤ m ∧ dkM τ m = nI l ∧ (l = m → m = 0) := by
    intro m
    induction m with
    | zero => intro _; exact ⟨0, Nat.le_refl _, rfl, fun _ => rfl⟩
    | succ m ih =>
      intro hm
      obtain ⟨l, h1, h2, -⟩ := ih (by omega)
      rw [dkM_s]; unfold trL
      split
      · exact ⟨l, by omega, h2, fun z => by omega⟩
      · exact ⟨m, by omega, rfl, fun z => by omega⟩
  unfold psV
  rw [rg_nI (by omega) (by decide), rg_nI (by omega) (by decide), e86, ek]
  by_cases q : k = 0
  · subst q
    rw [if_pos (by decide)]
    obtain ⟨l, h1, h2, h3⟩ := hd (m + 1) (by omega)
    have h4 : l ≤ m := by
      rcases Nat.lt_or_ge l (m + 1) with y | y
      · omega
      · have := h3 (by omega); omega
    have e : s 88 m = nI (m - l) := by
      rw [e88, h2, i_eq, i_sub (i_nI (by omega)) (i_nI (by omega)) (by omega) (by omega), i_nI (by omega)]; omega
    refine ⟨m - l, by omega, by rw [e], ?_, ?_⟩
    · unfold sO; rw [if_pos (by omega)]; rfl
    · unfold dO; rw [if_pos (by omega), e]
  · have hne : ¬ nI k ≤ 0 := by rw [show (0 : Int32) = nI 0 from rfl, znI_le (by omega) (by omega)]; omega
    rw [if_neg hne]
    have e : s 88 m = 0 := by
      rw [e88, dkM_s]; unfold trL
      rw [ek, if_neg hne, Int32.sub_self]
    refine ⟨11 + k, by omega, by rw [show (11 : Int32) = nI 11 from rfl, znI_add (by omega)], ?_, ?_⟩
    · unfold sO; rw [if_neg (by omega), show 11 + k - 11 = k by omega]
    · unfold dO; rw [if_neg (by omega), e]
theorem BS.T {σ s : St} {n9 fg : Int32} (hB : BS σ n9 fg s) {i m : Nat} {w : Int32} (hi : i < 6) (hm : m < 12) : BS σ n9 fg (psT s (nI i) (nI m) w) := by
  by_cases h : s 90 (12 * i + m) &&& w = 0
  · have e56 : ∀ k, 7 ≤ k → psT s (nI i) (nI m) w 56 k = s 56 k := fun k hk => by
      rw [psT_g hi hm h, up_o (by decide), lwS_o (by decide), ps2_g hi hm, tls_56 hk, up_o (by decide)]
    exact ⟨fun o ho => by rw [psT_o (by omega) (by omega) (by omega) (by omega)]; exact hB.1 o ho, by rw [e56 7 (by decide)]; exact hB.2.1, by rw [e56 8 (by decide)]; exact hB.2.2⟩
  · rw [psT_u hi hm h]; exact hB
theorem PS_T2 {τ s : St} (hP : PS τ s) {i m : Nat} {w : Int32} (hi : i < 6) (hm : m < 12) : PS τ (psT s (nI i) (nI m) w) := by
  by_cases h : s 90 (12 * i + m) &&& w = 0
  · obtain ⟨hF, hM, h7, h8⟩ := hP
    have e56 : ∀ k, 7 ≤ k → psT s (nI i) (nI m) w 56 k = s 56 k := fun k hk => by
      rw [psT_g hi hm h, up_o (by decide), lwS_o (by decide), ps2_g hi hm, tls_56 hk, up_o (by decide)]
    refine ⟨fun o a b c d e f g => ?_, fun k hk => ?_, ?_, ?_⟩
    · rw [psT_o e f a b]; exact hF o a b c d e f g
    · rw [psT_o (by decide) (by decide) (by decide) (by decide), psT_o (by decide) (by decide) (by decide) (by decide)]; exact hM k hk
    · rw [e56 7 (by decide)]; exact h7
    · rw [e56 8 (by decide)]; exact h8
  · rw [psT_u hi hm h]; exact hP
/-- the memo holds on; the answer is the law's -/
theorem MO.T {σ s : St} (h : RC σ) (hL : LW σ σ) (hO : lawOK σ) {n9 fg : Int32} (hB : BS σ n9 fg s) (hM : MO σ n9 fg s) {i m b : Nat} (hi : i < tl σ 3) (hm : m < tl σ 0) (hb : b < 32) (e86 : s 86 m = sO b) (e88 : s 88 m = dO b) (hV : psV s (nI m) = 1 <<< (nI b &&& 31)) :
    MO σ n9 fg (psT s (nI i) (nI m) (1 <<< (nI b &&& 31))) ∧ (psH s (nI i) (nI m) ↔ ¬ AN σ n9 fg i m b) := by
  have b0 : tl σ 0 ≤ 12 := h.b.1
  have b3 : tl σ 3 ≤ 6 := h.b.2.2.2.1
  have hMb := hM i m b hi hm hb
  have eH : psH s (nI i) (nI m) ↔ gB ((psT s (nI i) (nI m) (1 <<< (nI b &&& 31))) 92 (12 * i + m)) b = false := by
    unfold psH; rw [hV, ix12 (by omega) (by omega), rg_nI (by omega) (by decide)]; exact an_z hb
  rw [eH]
  by_cases q : s 90 (12 * i + m) &&& (1 <<< (nI b &&& 31)) = 0
  · have hk := (an_z hb).mp q
    have hns : gB (s 92 (12 * i + m)) b = false := by
      cases hz : gB (s 92 (12 * i + m)) b with
      | false => rfl
      | true => have := (hMb.mp hz).1; rw [hk] at this; exact absurd this (by decide)
    have hA : lwP (ps2 s (nI i) (nI m) (1 <<< (nI b &&& 31))) ↔ AN σ n9 fg i m b := by
      rw [ps2_g (by omega) (by omega), e86, e88]
      exact law_k h hL hO ⟨fun o ho => by rw [up_o (by omega)]; exact hB.1 o ho, by rw [up_o (by decide)]; exact hB.2.1, by rw [up_o (by decide)]; exact hB.2.2⟩ hi
    have e92 : ∀ k, psT s (nI i) (nI m) (1 <<< (nI b &&& 31)) 92 k = if k = 12 * i + m then s 92 (12 * i + m) ||| (if b2 (lwP (ps2 s (nI i) (nI m) (1 <<< (nI b &&& 31)))) = 0 then (0 : Int32) else ((1 : Int32) <<< (nI b &&& 31))) else s 92 k := fun k => by
      rw [psT_g (by omega) (by omega) q]
      by_cases y : k = 12 * i + m
      · rw [if_pos y, y, up_rd]
      · rw [if_neg y, up_k y, lwS_o (by decide), ps2_g (by omega) (by omega), tls_o (by decide), up_o (by decide)]
    have e90 : ∀ k, psT s (nI i) (nI m) (1 <<< (nI b &&& 31)) 90 k = if k = 12 * i + m then s 90 (12 * i + m) ||| (1 <<< (nI b &&& 31)) else s 90 k := fun k => by
      rw [psT_g (by omega) (by omega) q, up_o (by decide), lwS_o (by decide), ps2_g (by omega) (by omega), tls_o (by decide)]
      by_cases y : k = 12 * i + m
      · rw [if_pos y, y, up_rd]
      · rw [if_neg y, up_k y]
    refine ⟨fun i' m' c hi' hm' hc => ?_, ?_⟩
    · rw [e92, e90]
      by_cases y : 12 * i' + m' = 12 * i + m
      · have yi : i' = i := by omega
        have ym : m' = m := by omega
        subst yi; subst ym
        rw [if_pos rfl, if_pos rfl, gB_or, gB_or, gB_sh hb hc]
        by_cases u : c = b
        · subst u
          rw [hns, hk, decide_eq_true rfl]
          by_cases v : AN σ n9 fg i' m' c
          · rw [if_neg (fun z => b2_z z (hA.mpr v)), gB_sh hb hb, decide_eq_true rfl]; exact ⟨fun _ => ⟨rfl, v⟩, fun _ => rfl⟩
          · rw [if_pos (b2_f (fun z => v (hA.mp z))), gB_0]; exact ⟨fun z => absurd z (by decide), fun z => absurd z.2 v⟩
        · rw [decide_eq_false u, Bool.or_false]
          have e0 : gB (if b2 (lwP (ps2 s (nI i') (nI m') (1 <<< (nI b &&& 31)))) = 0 then (0 : Int32) else ((1 : Int32) <<< (nI b &&& 31))) c = false := by
            split
            · exact gB_0
            · rw [gB_sh hb hc]; exact decide_eq_false u
          rw [e0, Bool.or_false]
          exact hM i' m' c hi' hm' hc
      · rw [if_neg y, if_neg y]; exact hM i' m' c hi' hm' hc
    · rw [e92, if_pos rfl, gB_or, hns, Bool.false_or]
      by_cases v : AN σ n9 fg i m b
      · rw [if_neg (fun z => b2_z z (hA.mpr v)), gB_sh hb hb, decide_eq_true rfl]; exact ⟨fun z => absurd z (by decide), fun z => absurd v z⟩
      · rw [if_pos (b2_f (fun z => v (hA.mp z))), gB_0]; exact ⟨fun _ => v, fun _ => rfl⟩
  · have hk : gB (s 90 (12 * i + m)) b = true := by
      cases hz : gB (s 90 (12 * i + m)) b with
      | true => rfl
      | false => exact absurd ((an_z hb).mpr hz) q
    rw [psT_u (by omega) (by omega) q]
    refine ⟨hM, ?_⟩
    cases hz : gB (s 92 (12 * i + m)) b with
    | true => exact ⟨fun y => absurd y (by decide), fun y => absurd (hMb.mp hz).2 y⟩
    | false => exact ⟨fun _ y => by rw [hMb.mpr ⟨hk, y⟩] at hz; exact absurd hz (by decide), fun _ => rfl⟩
/-- a passing with what is known: the class's on s, the reference's on t, both by τ; σ: what stays the same -/
theorem pass2 {σ τ : St} (h : RC σ) (hL : LW σ σ) (hO : lawOK σ) (h' : RC τ) (hL' : LW τ τ) (hO' : lawOK τ) {n9 fg : Int32} (eT : ∀ k, tl τ k = tl σ k) (h7 : τ 122 27 = n9) (h8 : τ 122 28 = fg) (hs : ∀ m, m < tl σ 0 → ∃ k, k ≤ 15 ∧ msb τ 122 (nI m) (nI m) = nI k)
    {i : Nat} (hi : i < tl σ 3) : ∀ (n m : Nat) (s t : St), m + n = tl σ 0 → PS τ s → BS σ n9 fg s → MO σ n9 fg s → sx τ t → t 111 42 = -1 →
    (psR (nI i) n m s).1 = trR 122 i n m (dkM τ m) t 111 42 ∧ PS τ (psR (nI i) n m s).2 ∧ BS σ n9 fg (psR (nI i) n m s).2 ∧ MO σ n9 fg (psR (nI i) n m s).2 := by
  have b0 : tl σ 0 ≤ 12 := h.b.1
  have b3 : tl σ 3 ≤ 6 := h.b.2.2.2.1
  intro n
  induction n with
  | zero => intro m s t _ hP hB hM _ h42; exact ⟨h42.symm, hP, hB, hM⟩
  | succ n ih =>
    intro m s t hmn hP hB hM hq h42
    have hm : m < tl σ 0 := by omega
    have hm' : m < tl τ 0 := by rw [eT]; exact hm
    have hi' : i < tl τ 3 := by rw [eT]; exact hi
    obtain ⟨b, hb, hV, e86, e88⟩ := view_e hP (by rw [eT]; exact b0) hm' (hs m hm)
    have hA : AN σ n9 fg i m b ↔ 0 < mbV (tr3 t 122 i m (dkM τ m)) := by
      have a1 := law_s h' hL' hO' hP hq hi' hm'
      have a2 := law_k h hL hO hB hi (seen := s 86 m) (dark := s 88 m) (m := nI m) (c := nI m)
      rw [e86, e88] at a1 a2
      exact a2.symm.trans a1
    have hsm : stk s (nI i) (nI m) ↔ mrP τ i m := by
      have f8 : s 8 = τ 8 := hP.1 8 (by decide) (by decide) (by decide) (by decide) (by decide) (by decide) (by decide)
      have f24 : s 24 = τ 24 := hP.1 24 (by decide) (by decide) (by decide) (by decide) (by decide) (by decide) (by decide)
      have r1 : cR s (nI m) = τ 117 m := by unfold cR; rw [f8]; exact h'.r hm'
      have r2 : sD s (nI i) = τ (161 + i) 3 := by unfold sD; rw [f24]; exact h'.s3 hi'
      unfold stk mrP; rw [r1, r2]
    rw [trR, if_neg (fun q => q h42), trL_sq hq, show trL τ 122 m (dkM τ m) = dkM τ (m + 1) from rfl, psR]
    have qS : sx τ (trS t 122 i m (dkM τ m)) := hq.tS
    by_cases hk : stk s (nI i) (nI m)
    · rw [if_neg (fun q => q hk)]
      obtain ⟨hM2, hH⟩ := hM.T h hL hO hB hi hm hb e86 e88 hV
      rw [← hV] at hM2
      by_cases hl : psH s (nI i) (nI m)
      · have hA2 : ¬ 0 < mbV (tr3 t 122 i m (dkM τ m)) := fun q => (hH.mp hl) (hA.mpr q)
        rw [if_pos hl]
        exact ih (m + 1) _ _ (by omega) (PS_T2 hP (by omega) (by omega)) (hB.T (by omega) (by omega)) hM2 qS (by rw [trS_0 hA2]; exact h42)
      · have hA2 : 0 < mbV (tr3 t 122 i m (dkM τ m)) := hA.mp (Decidable.not_not.mp (fun q => hl (hH.mpr q)))
        rw [if_neg hl]
        have e42 : trS t 122 i m (dkM τ m) 111 42 = nI m := by
          rw [trS_1 hq hA2, if_neg (fun q => b2_z q (hsm.mp hk))]
        rw [trR_stop (by rw [e42]; exact nI_ne (by omega))]
        exact ⟨e42.symm, PS_T2 hP (by omega) (by omega), hB.T (by omega) (by omega), hM2⟩
    · rw [if_pos hk]
      have e42 : trS t 122 i m (dkM τ m) 111 42 = -1 := by
        by_cases hA2 : 0 < mbV (tr3 t 122 i m (dkM τ m))
        · rw [trS_1 hq hA2, if_pos (b2_f (fun q => hk (hsm.mpr q)))]
        · rw [trS_0 hA2]; exact h42
      exact ih (m + 1) s _ (by omega) hP hB hM qS e42
theorem psk_2 {σ τ s t : St} (h : RC σ) (hL : LW σ σ) (hO : lawOK σ) (h' : RC τ) (hL' : LW τ τ) (hO' : lawOK τ) {n9 fg : Int32} (eT : ∀ k, tl τ k = tl σ k) (h7 : τ 122 27 = n9) (h8 : τ 122 28 = fg) (hs : ∀ m, m < tl σ 0 → ∃ k, k ≤ 15 ∧ msb τ 122 (nI m) (nI m) = nI k)
    {i : Nat} (hi : i < tl σ 3) (hP : PS τ s) (hB : BS σ n9 fg s) (hM : MO σ n9 fg s) (hq : sx τ t) : (psk s (nI i)).1 = trF t 122 i 111 42 ∧ PS τ (psk s (nI i)).2 ∧ BS σ n9 fg (psk s (nI i)).2 ∧ MO σ n9 fg (psk s (nI i)).2 := by
  have e6 : ct (cM s 0) = tl σ 0 := by
    unfold cM; rw [hP.1 6 (by decide) (by decide) (by decide) (by decide) (by decide) (by decide) (by decide)]; show ct (cM τ 0) = _; rw [h'.m0]; exact eT 0
  have eT0 : tl t 0 = tl σ 0 := by rw [← eT 0]; unfold tl; rw [hq.1 115 (by decide) (by decide) (by decide)]
  have g := pass2 h hL hO h' hL' hO' eT h7 h8 hs hi (tl σ 0) 0 s (tr0 t) (by omega) hP hB hM hq.t0 (by unfold tr0; rw [up_k (by decide), up_k (by decide), up_k (by decide), up_rd])
  unfold psk trF
  rw [e6, eT0]
  exact g
