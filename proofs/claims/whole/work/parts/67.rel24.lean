/-! ===== words: by letters, by numbers ===== -/
def VV (g : Nat → Nat) : Nat → Nat
  | 0 => 0
  | n + 1 => 27 * VV g n + g n
theorem VV_inj {g h : Nat → Nat} : ∀ (n m : Nat), (∀ j, j < n → 1 ≤ g j ∧ g j ≤ 26) → (∀ j, j < m → 1 ≤ h j ∧ h j ≤ 26) → VV g n = VV h m → n = m ∧ ∀ j, j < n → g j = h j := by
  intro n
  induction n with
  | zero =>
    intro m _ hh e
    cases m with
    | zero => exact ⟨rfl, fun j hj => absurd hj (Nat.not_lt_zero j)⟩
    | succ m => have := hh m (by omega); rw [VV, VV] at e; omega
  | succ n ih =>
    intro m hg hh e
    have g1 := hg n (by omega)
    cases m with
    | zero => rw [VV, VV] at e; omega
    | succ m =>
      have h1 := hh m (by omega)
      rw [VV, VV] at e
      have e1 : VV g n = VV h m := by omega
      have e2 : g n = h m := by omega
      obtain ⟨i1, i2⟩ := ih m (fun j hj => hg j (by omega)) (fun j hj => hh j (by omega)) e1
      subst i1
      refine ⟨rfl, fun j hj => ?_⟩
      rcases Nat.lt_or_ge j n with z | z
      · exact i2 j z
      · have : j = n := by omega
        subst this; exact e2
theorem VV_cg {g h : Nat → Nat} : ∀ n, (∀ j, j < n → g j = h j) → VV g n = VV h n := by
  intro n
  induction n with
  | zero => intro _; rfl
  | succ n ih => intro e; rw [VV, VV, ih (fun j hj => e j (by omega)), e n (by omega)]
def lv (f : Nat → Int32) (a : Int32) (k : Nat) : Nat := (rg f 600 (a + nI k)).toInt.toNat - 96
def hW (w : List Int32) (k : Nat) : Nat := (w.getD k 0).toInt.toNat - 96
/-- the word w stands from a up to behind -/
abbrev WQ (f : Nat → Int32) (behind : Int32) (w : List Int32) (a : Int32) : Prop := a + nI w.length = behind ∧ ∀ j, j < w.length → a + nI j < behind ∧ rg f 600 (a + nI j) = w.getD j 0
theorem nI_sr (a : Int32) (j : Nat) : a + 1 + nI j = a + nI (j + 1) := by rw [← nI_s, Int32.add_comm (nI j) 1, Int32.add_assoc]
theorem WQ_c {f : Nat → Int32} {be c a : Int32} {w : List Int32} : WQ f be (c :: w) a ↔ (a < be ∧ rg f 600 a = c) ∧ WQ f be w (a + 1) := by
  have e0 : a + nI 0 = a := by rw [show nI 0 = 0 from rfl, Int32.add_zero]
  constructor
  · rintro ⟨h1, h2⟩
    refine ⟨?_, ?_, fun j hj => ?_⟩
    · have := h2 0 (by simp); rw [e0] at this; exact this
    · rw [nI_sr]; exact h1
    · have := h2 (j + 1) (by simp; omega); rw [nI_sr]; exact this
  · rintro ⟨h0, h1, h2⟩
    refine ⟨?_, fun j hj => ?_⟩
    · rw [nI_sr] at h1; exact h1
    · cases j with
      | zero => rw [e0]; exact h0
      | succ j => have := h2 j (by simp at hj; omega); rw [nI_sr] at this; exact this
theorem ix_word {f : Nat → Int32} {st be : Int32} {rest : List Int32} : ∀ (w : List Int32) (ix a s : Int32), (∀ c, c ∈ w → ¬ c = 32) →
    ((¬ s = 0 ∧ WQ f be w a) → ixF f st be (w ++ 32 :: rest) ix a s = ix) ∧ (¬ (¬ s = 0 ∧ WQ f be w a) → ixF f st be (w ++ 32 :: rest) ix a s = ixF f st be rest (ix + 1) st 1) := by
  intro w
  induction w with
  | nil =>
    intro ix a s _
    have e0 : WQ f be [] a ↔ a = be := by
      constructor
      · rintro ⟨h, -⟩; rw [show nI ([] : List Int32).length = 0 from rfl, Int32.add_zero] at h; exact h
      · intro h; exact ⟨by rw [show nI ([] : List Int32).length = 0 from rfl, Int32.add_zero]; exact h, fun j hj => absurd hj (Nat.not_lt_zero j)⟩
    rw [e0, List.nil_append, ixF, if_pos rfl]
    exact ⟨fun h => if_pos h, fun h => if_neg h⟩
  | cons c w ih =>
    intro ix a s hw
    have hc : ¬ c = 32 := hw c (by simp)
    obtain ⟨i1, i2⟩ := ih ix (a + 1) (if ¬ s = 0 ∧ a < be ∧ rg f 600 a = c then 1 else 0) (fun d hd => hw d (by simp [hd]))
    have key : (¬ (if ¬ s = 0 ∧ a < be ∧ rg f 600 a = c then (1 : Int32) else 0) = 0 ∧ WQ f be w (a + 1)) ↔ (¬ s = 0 ∧ WQ f be (c :: w) a) := by
      rw [WQ_c]
      by_cases q : ¬ s = 0 ∧ a < be ∧ rg f 600 a = c
      · rw [if_pos q]; exact ⟨fun z => ⟨q.1, q.2, z.2⟩, fun z => ⟨by decide, z.2.2⟩⟩
      · rw [if_neg q]; exact ⟨fun z => absurd rfl z.1, fun z => absurd ⟨z.1, z.2.1⟩ q⟩
    rw [key] at i1 i2
    rw [List.cons_append, ixF, if_neg hc]
    exact ⟨i1, i2⟩
def fsw (Q : List Int32 → Prop) [DecidablePred Q] : List (List Int32) → Int32 → Int32
  | [], _ => -1
  | w :: ws, ix => if Q w then ix else fsw Q ws (ix + 1)
def jnw (ws : List (List Int32)) : List Int32 := ws.foldr (fun w r => w ++ 32 :: r) []
theorem ix_list {f : Nat → Int32} {st be : Int32} : ∀ (ws : List (List Int32)) (ix : Int32), (∀ w, w ∈ ws → ∀ c, c ∈ w → ¬ c = 32) → ixF f st be (jnw ws) ix st 1 = fsw (fun w => WQ f be w st) ws ix := by
  intro ws
  induction ws with
  | nil => intro ix _; rfl
  | cons w ws ih =>
    intro ix hw
    obtain ⟨i1, i2⟩ := ix_word (f := f) (st := st) (be := be) (rest := jnw ws) w ix st 1 (hw w (by simp))
    show ixF f st be (w ++ 32 :: jnw ws) ix st 1 = if WQ f be w st then ix else fsw _ ws (ix + 1)
    by_cases q : WQ f be w st
    · rw [if_pos q]; exact i1 ⟨by decide, q⟩
    · rw [if_neg q, i2 (fun z => q z.2)]; exact ih (ix + 1) (fun v hv => hw v (by simp [hv]))
/-- where the word at the place ends -/
abbrev WM (s : St) (w : List Int32) : Prop := WQ (s 3) (rn (s 1 2) (isA (s 3)) (s 1 3)) w (s 1 3)
/-- w's letters are letters -/
abbrev LT (w : List Int32) : Prop := ∀ j, j < w.length → 97 ≤ (w.getD j 0).toInt ∧ (w.getD j 0).toInt ≤ 122
/-- the run at the place -/
theorem run_at {s t : St} (h : SY s t) (h5 : t 111 5 = 0) : ∃ L : Nat, L = wlen (mbl t 111 2) (mbl t 112) (mbl t 111 4) ∧ L ≤ 600 ∧ (rn (s 1 2) (isA (s 3)) (s 1 3)).toInt = (s 1 3).toInt + L ∧ (rn (s 1 2) (isA (s 3)) (s 1 3)).toInt ≤ 600 ∧ ∀ j, j < L → (s 1 3 + nI j).toInt = (s 1 3).toInt + j ∧ mbt (mbl t 111 2) (mbl t 112) (mbl t 111 4 + nI j) = rg (s 3) 600 (s 1 3 + nI j) ∧ 97 ≤ (rg (s 3) 600 (s 1 3 + nI j)).toInt ∧ (rg (s 3) 600 (s 1 3 + nI j)).toInt ≤ 122 := by
  obtain ⟨e, p1, p2, p3⟩ := h.pl h5
  obtain ⟨L, q1, q2, q3, q4⟩ := rn_run (P := isA (s 3)) _ (s 1 3) rfl p2
  have e2 : mbl t 111 2 = s 1 2 := by rw [mbl_k (by decide)]; exact h.2.1.symm
  have eb : mbl t 112 = s 3 := by rw [mbl_o (by decide)]; exact h.2.2.1.symm
  refine ⟨L, ?_, by omega, q1, by omega, fun j hj => ?_⟩
  · unfold wlen; rw [e2, eb, ← e]; omega
  · obtain ⟨r1, r2⟩ := q3 j hj
    have ej : (s 1 3 + nI j).toInt = (s 1 3).toInt + j := i_add rfl (i_nI (by omega)) (by omega) (by omega)
    have hd := of_decide_eq_true r2
    rw [i_le, i_le] at hd
    rw [e2, eb, ← e, mbt_rg (by omega) p3 r1]
    exact ⟨ej, rfl, hd⟩
theorem wrd_v {s t : St} (h : SY s t) (h5 : t 111 5 = 0) : ∀ n, n ≤ 6 → n ≤ wlen (mbl t 111 2) (mbl t 112) (mbl t 111 4) → (wrd (mbl t 111 2) (mbl t 112) (mbl t 111 4) n).toInt = VV (lv (s 3) (s 1 3)) n ∧ VV (lv (s 3) (s 1 3)) n < 27 ^ n := by
  obtain ⟨L, eL, hL, q1, q2, q3⟩ := run_at h h5
  rw [← eL]
  intro n
  induction n with
  | zero => intro _ _; exact ⟨rfl, Nat.one_pos⟩
  | succ n ih =>
    intro hn hnL
    obtain ⟨i1, i2⟩ := ih (by omega) (by omega)
    obtain ⟨r1, r2, r3, r4⟩ := q3 n (by omega)
    have hp : 27 ^ n ≤ 14348907 := by
      have : n = 0 ∨ n = 1 ∨ n = 2 ∨ n = 3 ∨ n = 4 ∨ n = 5 := by omega
      rcases this with z | z | z | z | z | z <;> subst z <;> decide
    have e27 : (27 : Int32).toInt = 27 := rfl
    have e97 : (97 : Int32).toInt = 97 := rfl
    have e1 : (1 : Int32).toInt = 1 := rfl
    have el : (lv (s 3) (s 1 3) n : Int) = (rg (s 3) 600 (s 1 3 + nI n)).toInt - 96 := by unfold lv; omega
    rw [wrd_1 (by omega), r2, VV, Nat.pow_succ]
    refine ⟨?_, by omega⟩
    rw [i_add (i_sub (i_add (i_mul e27 i1 (by omega) (by omega)) rfl (by omega) (by omega)) e97 (by omega) (by omega)) e1 (by omega) (by omega)]
    omega
/-- the letters agree as numbers, as letters -/
theorem lt_agr {s t : St} (h : SY s t) (h5 : t 111 5 = 0) {w : List Int32} (hw : LT w) (hl : w.length ≤ 600) : WM s w ↔ w.length = wlen (mbl t 111 2) (mbl t 112) (mbl t 111 4) ∧ ∀ j, j < w.length → lv (s 3) (s 1 3) j = hW w j := by
  obtain ⟨L, eL, hL, q1, q2, q3⟩ := run_at h h5
  obtain ⟨-, p1, p2, p3⟩ := h.pl h5
  rw [← eL]
  have ew : (s 1 3 + nI w.length).toInt = (s 1 3).toInt + w.length := i_add rfl (i_nI (by omega)) (by omega) (by omega)
  constructor
  · rintro ⟨h1, h2⟩
    have e : w.length = L := by rw [← h1, ew] at q1; omega
    refine ⟨e, fun j hj => ?_⟩
    unfold lv hW; rw [(h2 j hj).2]
  · rintro ⟨h1, h2⟩
    refine ⟨by rw [i_eq, ew, q1, h1], fun j hj => ?_⟩
    obtain ⟨r1, r2, r3, r4⟩ := q3 j (by omega)
    refine ⟨by rw [i_lt, r1, q1]; omega, ?_⟩
    have := h2 j hj
    have hwj := hw j hj
    unfold lv hW at this
    rw [i_eq]; omega
theorem is_iff {s t : St} (h : SY s t) (h5 : t 111 5 = 0) {w : List Int32} (hw : LT w) (hl : w.length ≤ 6) {c : Int32} (hc : c.toInt = VV (hW w) w.length) : mIs t c ↔ WM s w := by
  rw [lt_agr h h5 hw (by omega)]
  obtain ⟨L, eL, hL, q1, q2, q3⟩ := run_at h h5
  have hg : ∀ j, j < L → 1 ≤ lv (s 3) (s 1 3) j ∧ lv (s 3) (s 1 3) j ≤ 26 := fun j hj => by
    obtain ⟨r1, r2, r3, r4⟩ := q3 j hj
    unfold lv; omega
  have hh : ∀ j, j < w.length → 1 ≤ hW w j ∧ hW w j ≤ 26 := fun j hj => by have := hw j hj; unfold hW; omega
  unfold mIs mwv
  rw [← eL]
  constructor
  · rintro ⟨-, e⟩
    by_cases q : 6 < nI L
    · rw [if_pos q] at e; rw [← e, show (-1 : Int32).toInt = -1 from rfl] at hc; omega
    · rw [if_neg q] at e
      have hL6 : L ≤ 6 := by rw [i_lt, i_nI (by omega), show (6 : Int32).toInt = 6 from rfl] at q; omega
      have hv := (wrd_v h h5 L hL6 (by omega)).1
      rw [e, hc] at hv
      obtain ⟨i1, i2⟩ := VV_inj L w.length hg hh (by omega)
      exact ⟨i1.symm, fun j hj => i2 j (by omega)⟩
  · rintro ⟨e1, e2⟩
    have q : ¬ 6 < nI L := by rw [i_lt, i_nI (by omega), show (6 : Int32).toInt = 6 from rfl]; omega
    rw [if_neg q]
    refine ⟨h5, ?_⟩
    have hv := (wrd_v h h5 L (by omega) (by omega)).1
    rw [i_eq, hv, hc, ← e1]
    have := VV_cg (g := lv (s 3) (s 1 3)) (h := hW w) w.length e2
    omega

def zw1 : List (List Int32) := [[99, 101, 108, 108], [108, 105, 103, 104, 116], [100, 111, 110, 107, 101, 121], [115, 104, 105, 112], [100, 111, 111, 114], [115, 105, 103, 104, 116]]
theorem zw1_e : zL 1 = jnw zw1 := by decide +kernel
theorem zw1_s : ∀ w, w ∈ zw1 → ∀ c, c ∈ w → ¬ c = 32 := by decide +kernel
theorem wo1_e {s : St} : woI s 1 = fsw (fun w => WM s w) zw1 0 := by
  unfold woI wix woE
  rw [zw1_e, ix_list _ _ zw1_s]
  unfold wo1
  rw [up_rd, up_k (by decide), up_k (by decide), up_o (by decide)]
def zw2 : List (List Int32) := [[115, 101, 101, 110], [100, 97, 114, 107], [109, 105, 110, 117, 116, 101], [99, 101, 108, 108], [116, 114, 117, 115, 116], [100, 114, 97, 117, 103, 104, 116], [99, 114, 101, 119], [110, 105, 103, 104, 116], [102, 111, 103], [108, 101, 97, 115, 116], [109, 111, 115, 116]]
theorem zw2_e : zL 2 = jnw zw2 := by decide +kernel
theorem zw2_s : ∀ w, w ∈ zw2 → ∀ c, c ∈ w → ¬ c = 32 := by decide +kernel
theorem wo2_e {s : St} : woI s 2 = fsw (fun w => WM s w) zw2 0 := by
  unfold woI wix woE
  rw [zw2_e, ix_list _ _ zw2_s]
  unfold wo1
  rw [up_rd, up_k (by decide), up_k (by decide), up_o (by decide)]
def zw3 : List (List Int32) := [[100, 111, 119, 115, 101], [108, 105, 103, 104, 116], [108, 101, 97, 100], [112, 97, 115, 115], [102, 111, 103], [110, 105, 103, 104, 116], [97, 103, 97, 105, 110]]
theorem zw3_e : zL 3 = jnw zw3 := by decide +kernel
theorem zw3_s : ∀ w, w ∈ zw3 → ∀ c, c ∈ w → ¬ c = 32 := by decide +kernel
theorem wo3_e {s : St} : woI s 3 = fsw (fun w => WM s w) zw3 0 := by
  unfold woI wix woE
  rw [zw3_e, ix_list _ _ zw3_s]
  unfold wo1
  rw [up_rd, up_k (by decide), up_k (by decide), up_o (by decide)]
theorem is_again {s t : St} (h : SY s t) (h5 : t 111 5 = 0) : mIs t (m6 1 7 1 9 14 0) ↔ WM s [97, 103, 97, 105, 110] := is_iff h h5 (by decide +kernel) (by decide) (by decide +kernel)
theorem is_cell {s t : St} (h : SY s t) (h5 : t 111 5 = 0) : mIs t (m6 3 5 12 12 0 0) ↔ WM s [99, 101, 108, 108] := is_iff h h5 (by decide +kernel) (by decide) (by decide +kernel)
theorem is_crew {s t : St} (h : SY s t) (h5 : t 111 5 = 0) : mIs t (m6 3 18 5 23 0 0) ↔ WM s [99, 114, 101, 119] := is_iff h h5 (by decide +kernel) (by decide) (by decide +kernel)
theorem is_dark {s t : St} (h : SY s t) (h5 : t 111 5 = 0) : mIs t (m6 4 1 18 11 0 0) ↔ WM s [100, 97, 114, 107] := is_iff h h5 (by decide +kernel) (by decide) (by decide +kernel)
theorem is_donkey {s t : St} (h : SY s t) (h5 : t 111 5 = 0) : mIs t (m6 4 15 14 11 5 25) ↔ WM s [100, 111, 110, 107, 101, 121] := is_iff h h5 (by decide +kernel) (by decide) (by decide +kernel)
theorem is_door {s t : St} (h : SY s t) (h5 : t 111 5 = 0) : mIs t (m6 4 15 15 18 0 0) ↔ WM s [100, 111, 111, 114] := is_iff h h5 (by decide +kernel) (by decide) (by decide +kernel)
theorem is_dowse {s t : St} (h : SY s t) (h5 : t 111 5 = 0) : mIs t (m6 4 15 23 19 5 0) ↔ WM s [100, 111, 119, 115, 101] := is_iff h h5 (by decide +kernel) (by decide) (by decide +kernel)
theorem is_fog {s t : St} (h : SY s t) (h5 : t 111 5 = 0) : mIs t (m6 6 15 7 0 0 0) ↔ WM s [102, 111, 103] := is_iff h h5 (by decide +kernel) (by decide) (by decide +kernel)
theorem is_lead {s t : St} (h : SY s t) (h5 : t 111 5 = 0) : mIs t (m6 12 5 1 4 0 0) ↔ WM s [108, 101, 97, 100] := is_iff h h5 (by decide +kernel) (by decide) (by decide +kernel)
theorem is_least {s t : St} (h : SY s t) (h5 : t 111 5 = 0) : mIs t (m6 12 5 1 19 20 0) ↔ WM s [108, 101, 97, 115, 116] := is_iff h h5 (by decide +kernel) (by decide) (by decide +kernel)
theorem is_light {s t : St} (h : SY s t) (h5 : t 111 5 = 0) : mIs t (m6 12 9 7 8 20 0) ↔ WM s [108, 105, 103, 104, 116] := is_iff h h5 (by decide +kernel) (by decide) (by decide +kernel)
theorem is_minute {s t : St} (h : SY s t) (h5 : t 111 5 = 0) : mIs t (m6 13 9 14 21 20 5) ↔ WM s [109, 105, 110, 117, 116, 101] := is_iff h h5 (by decide +kernel) (by decide) (by decide +kernel)
theorem is_most {s t : St} (h : SY s t) (h5 : t 111 5 = 0) : mIs t (m6 13 15 19 20 0 0) ↔ WM s [109, 111, 115, 116] := is_iff h h5 (by decide +kernel) (by decide) (by decide +kernel)
theorem is_night {s t : St} (h : SY s t) (h5 : t 111 5 = 0) : mIs t (m6 14 9 7 8 20 0) ↔ WM s [110, 105, 103, 104, 116] := is_iff h h5 (by decide +kernel) (by decide) (by decide +kernel)
theorem is_pass {s t : St} (h : SY s t) (h5 : t 111 5 = 0) : mIs t (m6 16 1 19 19 0 0) ↔ WM s [112, 97, 115, 115] := is_iff h h5 (by decide +kernel) (by decide) (by decide +kernel)
theorem is_seen {s t : St} (h : SY s t) (h5 : t 111 5 = 0) : mIs t (m6 19 5 5 14 0 0) ↔ WM s [115, 101, 101, 110] := is_iff h h5 (by decide +kernel) (by decide) (by decide +kernel)
theorem is_ship {s t : St} (h : SY s t) (h5 : t 111 5 = 0) : mIs t (m6 19 8 9 16 0 0) ↔ WM s [115, 104, 105, 112] := is_iff h h5 (by decide +kernel) (by decide) (by decide +kernel)
theorem is_sight {s t : St} (h : SY s t) (h5 : t 111 5 = 0) : mIs t (m6 19 9 7 8 20 0) ↔ WM s [115, 105, 103, 104, 116] := is_iff h h5 (by decide +kernel) (by decide) (by decide +kernel)
theorem is_trust {s t : St} (h : SY s t) (h5 : t 111 5 = 0) : mIs t (m6 20 18 21 19 20 0) ↔ WM s [116, 114, 117, 115, 116] := is_iff h h5 (by decide +kernel) (by decide) (by decide +kernel)
theorem ifc {α : Type} {p q : Prop} [Decidable p] [Decidable q] {x u y v : α} (h : p ↔ q) (h1 : x = u) (h2 : y = v) : (if p then x else y) = if q then u else v := by
  subst h1; subst h2
  by_cases z : p
  · rw [if_pos z, if_pos (h.mp z)]
  · rw [if_neg z, if_neg (fun y => z (h.mpr y))]
theorem b2if {α : Type} {p : Prop} [Decidable p] {x y : α} : (if b2 p = 0 then x else y) = if p then y else x := by
  by_cases q : p
  · rw [if_pos q, if_neg (fun z => b2_z z q)]
  · rw [if_neg q, if_pos (b2_f q)]
theorem is_draught {s t : St} (h : SY s t) (h5 : t 111 5 = 0) : mDr t ↔ WM s [100, 114, 97, 117, 103, 104, 116] := by
  rw [lt_agr h h5 (by decide +kernel) (by decide)]
  obtain ⟨L, eL, hL, q1, q2, q3⟩ := run_at h h5
  have hg : ∀ j, j < L → 1 ≤ lv (s 3) (s 1 3) j ∧ lv (s 3) (s 1 3) j ≤ 26 := fun j hj => by
    obtain ⟨r1, r2, r3, r4⟩ := q3 j hj
    unfold lv; omega
  have hh : ∀ j, j < 6 → 1 ≤ hW [100, 114, 97, 117, 103, 104] j ∧ hW [100, 114, 97, 117, 103, 104] j ≤ 26 := by decide +kernel
  have hc : (m6 4 18 1 21 7 8).toInt = VV (hW [100, 114, 97, 117, 103, 104]) 6 := by decide +kernel
  unfold mDr
  rw [← eL]
  have w76 : wrd (mbl t 111 2) (mbl t 112) (mbl t 111 4) 7 = wrd (mbl t 111 2) (mbl t 112) (mbl t 111 4) 6 := wrd_2 (by decide)
  have same : ∀ j, j < 6 → hW [100, 114, 97, 117, 103, 104] j = hW [100, 114, 97, 117, 103, 104, 116] j := by decide +kernel
  constructor
  · rintro ⟨-, e7, e6, e116⟩
    have hL7 : L = 7 := by
      have : (nI L).toInt = 7 := by rw [e7]; rfl
      rw [i_nI (by omega)] at this; omega
    rw [hL7, w76] at e6
    have hv := (wrd_v h h5 6 (by decide) (by omega)).1
    rw [e6, hc] at hv
    obtain ⟨-, i2⟩ := VV_inj 6 6 (fun j hj => hg j (by omega)) hh (by omega)
    refine ⟨hL7.symm, fun j hj => ?_⟩
    have hj7 : j < 7 := hj
    rcases Nat.lt_or_ge j 6 with z | z
    · rw [i2 j z]; exact same j z
    · have e : j = 6 := by omega
      subst e
      obtain ⟨r1, r2, -, -⟩ := q3 6 (by omega)
      rw [show (6 : Int32) = nI 6 from rfl, r2] at e116
      unfold lv; rw [e116]; rfl
  · rintro ⟨e1, e2⟩
    have hL7 : L = 7 := e1.symm
    refine ⟨h5, by rw [hL7]; rfl, ?_, ?_⟩
    · rw [hL7, w76, i_eq, (wrd_v h h5 6 (by decide) (by omega)).1, hc]
      have := VV_cg (g := lv (s 3) (s 1 3)) (h := hW [100, 114, 97, 117, 103, 104]) 6 (fun j hj => (e2 j (show j < 7 by omega)).trans (same j hj).symm)
      omega
    · obtain ⟨r1, r2, r3, r4⟩ := q3 6 (by omega)
      rw [show (6 : Int32) = nI 6 from rfl, r2]
      have e := e2 6 (by decide)
      have e20 : hW [100, 114, 97, 117, 103, 104, 116] 6 = 20 := by decide +kernel
      rw [e20] at e
      unfold lv at e
      rw [i_eq, show (116 : Int32).toInt = 116 from rfl]; omega

theorem wo1_i {s : St} : woI s 1 = if WM s [99, 101, 108, 108] then 0 else (if WM s [108, 105, 103, 104, 116] then 1 else (if WM s [100, 111, 110, 107, 101, 121] then 2 else (if WM s [115, 104, 105, 112] then 3 else (if WM s [100, 111, 111, 114] then 4 else (if WM s [115, 105, 103, 104, 116] then 5 else ((-1 : Int32))))))) := by
  rw [wo1_e]; rfl
theorem wo2_i {s : St} : woI s 2 = if WM s [115, 101, 101, 110] then 0 else (if WM s [100, 97, 114, 107] then 1 else (if WM s [109, 105, 110, 117, 116, 101] then 2 else (if WM s [99, 101, 108, 108] then 3 else (if WM s [116, 114, 117, 115, 116] then 4 else (if WM s [100, 114, 97, 117, 103, 104, 116] then 5 else (if WM s [99, 114, 101, 119] then 6 else (if WM s [110, 105, 103, 104, 116] then 7 else (if WM s [102, 111, 103] then 8 else (if WM s [108, 101, 97, 115, 116] then 9 else (if WM s [109, 111, 115, 116] then 10 else ((-1 : Int32)))))))))))) := by
  rw [wo2_e]; rfl
theorem wo3_i {s : St} : woI s 3 = if WM s [100, 111, 119, 115, 101] then 0 else (if WM s [108, 105, 103, 104, 116] then 1 else (if WM s [108, 101, 97, 100] then 2 else (if WM s [112, 97, 115, 115] then 3 else (if WM s [102, 111, 103] then 4 else (if WM s [110, 105, 103, 104, 116] then 5 else (if WM s [97, 103, 97, 105, 110] then 6 else ((-1 : Int32)))))))) := by
  rw [wo3_e]; rfl
theorem mk_e {s t : St} (h : SY s t) (h5 : t 111 5 = 0) : mkV t = woI s 1 := by
  rw [wo1_i]; unfold mkV; rw [b2if, b2if, b2if, b2if, b2if, b2if]
  exact ifc (is_cell h h5) rfl (ifc (is_light h h5) rfl (ifc (is_donkey h h5) rfl (ifc (is_ship h h5) rfl (ifc (is_door h h5) rfl (ifc (is_sight h h5) rfl (rfl))))))
theorem mz_e {s t : St} (h : SY s t) (h5 : t 111 5 = 0) : mzV t = woI s 3 := by
  rw [wo3_i]; unfold mzV; rw [b2if, b2if, b2if, b2if, b2if, b2if, b2if]
  exact ifc (is_dowse h h5) rfl (ifc (is_light h h5) rfl (ifc (is_lead h h5) rfl (ifc (is_pass h h5) rfl (ifc (is_fog h h5) rfl (ifc (is_night h h5) rfl (ifc (is_again h h5) rfl (rfl)))))))
theorem mq_e {s t : St} (h : SY s t) (h5 : t 111 5 = 0) : mqV t = if WM s [115, 101, 101, 110] then 0 else (if WM s [100, 97, 114, 107] then 1 else (if WM s [109, 105, 110, 117, 116, 101] then 2 else (if WM s [99, 101, 108, 108] then 3 else (if WM s [116, 114, 117, 115, 116] then 4 else (if WM s [100, 114, 97, 117, 103, 104, 116] then 5 else (if WM s [99, 114, 101, 119] then 6 else (if WM s [110, 105, 103, 104, 116] then 7 else (if WM s [102, 111, 103] then 8 else ((-1 : Int32)))))))))) := by
  unfold mqV; rw [b2if, b2if, b2if, b2if, b2if, b2if, b2if, b2if, b2if]
  exact ifc (is_seen h h5) rfl (ifc (is_dark h h5) rfl (ifc (is_minute h h5) rfl (ifc (is_cell h h5) rfl (ifc (is_trust h h5) rfl (ifc (is_draught h h5) rfl (ifc (is_crew h h5) rfl (ifc (is_night h h5) rfl (ifc (is_fog h h5) rfl (rfl)))))))))
theorem mo_e {s t : St} (h : SY s t) (h5 : t 111 5 = 0) : moH t = if WM s [108, 101, 97, 115, 116] then 7 else (if WM s [109, 111, 115, 116] then 8 else ((-1 : Int32))) := by
  unfold moH; rw [b2if, b2if]
  exact ifc (is_least h h5) rfl (ifc (is_most h h5) rfl (rfl))
theorem WM_1 {s : St} {w v : List Int32} (hl : w.length < 600) (hv : v.length < 600) (h : WM s w) (h2 : WM s v) (hn : w.length = v.length → ∃ j, j < w.length ∧ ¬ w.getD j 0 = v.getD j 0) : False := by
  obtain ⟨a1, b1⟩ := h
  obtain ⟨a2, b2⟩ := h2
  have e : w.length = v.length := by
    have e9 : s 1 3 + nI w.length = s 1 3 + nI v.length := a1.trans a2.symm
    have e8 : nI w.length = nI v.length := by
      have := congrArg (fun x => x - s 1 3) e9
      simp only [Int32.add_comm (s 1 3), Int32.add_sub_cancel] at this; exact this
    have e7 : (nI w.length).toInt = (nI v.length).toInt := by rw [e8]
    rw [i_nI (by omega), i_nI (by omega)] at e7; omega
  obtain ⟨j, hj, hne⟩ := hn e
  exact hne ((b1 j hj).2.symm.trans (b2 j (by omega)).2)
/-! behind a word -/
theorem SY.ywo {s t : St} (h : SY s t) (h5 : t 111 5 = 0) : SY (mvt (wo1 s) (woE (wo1 s))) (msk (mbl t)) := by
  have e := (h.pl h5).1
  have e2 : mbl t 111 2 = s 1 2 := by rw [mbl_k (by decide)]; exact h.2.1.symm
  have eb : mbl t 112 = s 3 := by rw [mbl_o (by decide)]; exact h.2.2.1.symm
  have eE : woE (wo1 s) = rn (mbl t 111 2) (isA (mbl t 112)) (mbl t 111 4) := by
    unfold woE wo1; rw [up_k (by decide), up_k (by decide), up_o (by decide), e2, eb, e]
  have hp := msk_p (mbl_p h.1).1
  unfold msk at hp ⊢
  rw [eE]
  refine SY.ymv (SY.cl h.ybl ?_ ?_ ?_ ?_ ?_) hp
  all_goals unfold wo1
  · exact up_k (by decide)
  · exact up_k (by decide)
  · exact up_k (by decide)
  · exact up_k (by decide)
  · exact up_o (by decide)
theorem woS_1 {s : St} {w : Nat} (h : ¬ woI s w = -1) : woS s w = mvt (wo1 s) (woE (wo1 s)) := by unfold woS; exact if_neg h
theorem woS_4 {s : St} {w : Nat} : woS s w 1 4 = s 1 3 := by
  have e : mvt (wo1 s) (woE (wo1 s)) 1 4 = s 1 3 := by rw [mvt_k (by decide)]; unfold wo1; exact up_rd
  unfold woS; split
  · rw [bl_k (by decide) (by decide), e]
  · exact e
theorem woS_o {s : St} {w o : Nat} (h : o ≠ 1) : woS s w o = s o := by
  have e : mvt (wo1 s) (woE (wo1 s)) o = s o := by rw [mvt_o h]; unfold wo1; exact up_o h
  unfold woS; split
  · rw [bl_o h, e]
  · exact e
theorem SY.ywn {s t : St} (h : SY s t) (h5 : t 111 5 = 0) {w : Nat} (hw : woI s w = -1) : SY (woS s w) (wr (mbz t) 1 (mbz t 111 4)) := by
  have eS : woS s w = bl (mvt (wo1 s) (woE (wo1 s))) 1 (s 1 3) := by
    unfold woS; rw [if_pos hw, mvt_k (show 4 ≠ 3 by decide)]; unfold wo1; rw [up_rd]
  have eM : mbz t = mbl t := by unfold mbz; exact if_pos h5
  rw [eS, eM, ← (h.pl h5).1]
  refine SY0.yw ⟨(mbl_p h.1).1, ?_, ?_, ?_, ?_⟩ (by decide)
  · rw [mvt_k (by decide), mbl_k (by decide)]; unfold wo1; rw [up_k (by decide)]; exact h.2.1
  · rw [mvt_o (by decide), mbl_o (by decide)]; unfold wo1; rw [up_o (by decide)]; exact h.2.2.1
  · rw [mvt_k (by decide), mbl_k (by decide)]; unfold wo1; rw [up_k (by decide)]; exact h.2.2.2.1
  · rw [mvt_k (by decide), mbl_k (by decide)]; unfold wo1; rw [up_k (by decide)]; exact h.2.2.2.2.1
