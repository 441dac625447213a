theorem saW_up {t : St} {o k : Nat} {v : Int32} (h : o ≠ 111) (hs : saW t) : saW (up t o k v) := by unfold saW at *; rw [up_o (Ne.symm h)]; exact hs
theorem zin_addx {c n : Nat} {x : Int32} (h1 : 0 ≤ x.toInt) (h2 : c + x.toInt < n) (hn : n < 100000) : zin (nI c + x) n (c + x.toInt.toNat) := ⟨by rw [i_add (i_nI (by omega)) rfl (by omega) (by omega)]; omega, by omega⟩
/-! a passing -/
def mp1 (σ : St) (o s : Nat) : St := up (trF σ o s) o 4 (trF σ o s o 4 ||| (1 <<< (nI s &&& 31)))
def mp2 (t : St) (o s : Nat) : St := up t o (5 + s) (t o (5 + s) + 1)
def mp3 (t : St) (o : Nat) : St := up t o (11 + (t 111 42).toInt.toNat) (t o (11 + (t 111 42).toInt.toNat) + 1)
def mp4 (t : St) (o : Nat) : St := up t o 23 (t o 23 + 1)
def mp5 (t : St) (o s : Nat) : St := up t o 26 (t o 26 + mal t s)
def mp6 (t : St) (o s : Nat) : St := if mal t s = 0 then up t o 24 (t o 24 + t (161 + s) 0) else up t o 25 (t o 25 + t (161 + s) 0)
def mpS (σ : St) (o s : Nat) : St := if mp1 σ o s 111 42 = -1 then mp1 σ o s else mp6 (mp5 (mp4 (mp3 (mp2 (mp1 σ o s) o s) o) o) o s) o s
def mne (σ : St) (o : Nat) : St := up (up (up σ o 27 (σ o 27 + 1)) o 28 0) o 4 0
/-! all ships -/
def mfB (o k : Nat) (z : Int32 × St) : Int32 × St := (if trF z.2 o k 111 42 = -1 then z.1 ||| (1 <<< (nI k &&& 31)) else z.1 ||| 0, trF z.2 o k)
def msf (σ : St) (o n : Nat) : Int32 × St := it (mfB o) (0, σ) n
theorem msf_1 {σ : St} {o i : Nat} (h : trF (msf σ o i).2 o i 111 42 = -1) : msf σ o (i + 1) = ((msf σ o i).1 ||| (1 <<< (nI i &&& 31)), trF (msf σ o i).2 o i) := by
  show mfB o i (msf σ o i) = _; unfold mfB; rw [if_pos h]
theorem msf_2 {σ : St} {o i : Nat} (h : ¬ trF (msf σ o i).2 o i 111 42 = -1) : msf σ o (i + 1) = ((msf σ o i).1 ||| 0, trF (msf σ o i).2 o i) := by
  show mfB o i (msf σ o i) = _; unfold mfB; rw [if_neg h]
theorem sq.sf {σ t : St} (h : sq σ t) {o n : Nat} : sq σ (msf t o n).2 := by
  induction n with
  | zero => exact h
  | succ n ih => exact ih.tF
def mcB (o : Nat) (ships : Int32) (k : Nat) (z : Int32 × St) : Int32 × St := if b2 (hB ships (nI k)) = 0 then z else (z.1 + mpa (trF z.2 o k) k, trF z.2 o k)
def mcg (σ : St) (o : Nat) (ships : Int32) (n : Nat) : Int32 × St := it (mcB o ships) (0, σ) n
theorem mcg_1 {σ : St} {o i : Nat} {ships : Int32} (h : b2 (hB ships (nI i)) = 0) : mcg σ o ships (i + 1) = mcg σ o ships i := by
  show mcB o ships i (mcg σ o ships i) = _; unfold mcB; rw [if_pos h]
theorem mcg_2 {σ : St} {o i : Nat} {ships : Int32} (h : ¬ b2 (hB ships (nI i)) = 0) : mcg σ o ships (i + 1) = ((mcg σ o ships i).1 + mpa (trF (mcg σ o ships i).2 o i) i, trF (mcg σ o ships i).2 o i) := by
  show mcB o ships i (mcg σ o ships i) = _; unfold mcB; rw [if_neg h]
theorem sq.cg {σ t : St} (h : sq σ t) {o n : Nat} {ships : Int32} : sq σ (mcg t o ships n).2 := by
  induction n with
  | zero => exact h
  | succ n ih =>
    by_cases hb : b2 (hB ships (nI n)) = 0
    · rw [mcg_1 hb]; exact ih
    · rw [mcg_2 hb]; exact ih.tF
def ons (bits : Int32) (n : Nat) : Int32 := sm (fun k => (bits >>> (nI k &&& 31)) &&& 1) n
/-! the log -/
abbrev mlg (σ : St) (p a : Int32) (k : Nat) : Prop := (σ (487 + k) 0 - σ (487 + k) 0 / p * p = a) ↔ (σ (487 + k) 1 = 1)
abbrev mlgA (σ : St) (p a : Int32) : Prop := ∀ k, k < ct (σ 111 37) → mlg σ p a k
def ftm (σ : St) (i a : Nat) (x : Int32 × Int32) : Int32 × Int32 := if b2 (mlgA σ (nI (i + 1)) (nI a)) = 0 then x else (x.1 + 1, if x.1 = 0 then 10 * nI (i + 1) + nI a else x.2)
def mfA (σ : St) (i n : Nat) (x : Int32 × Int32) : Int32 × Int32 := it (ftm σ i) x n
def mft (σ : St) (n : Nat) : Int32 × Int32 := it (fun i x => mfA σ i (i + 1) x) (0, -1) n
theorem mfA_1 {σ : St} {i j : Nat} {x : Int32 × Int32} (h : b2 (mlgA σ (nI (i + 1)) (nI j)) = 0) : mfA σ i (j + 1) x = mfA σ i j x := by
  show ftm σ i j (mfA σ i j x) = _; unfold ftm; rw [if_pos h]
theorem mfA_2 {σ : St} {i j : Nat} {x : Int32 × Int32} (h : ¬ b2 (mlgA σ (nI (i + 1)) (nI j)) = 0) (h2 : (mfA σ i j x).1 = 0) : mfA σ i (j + 1) x = ((mfA σ i j x).1 + 1, 10 * nI (i + 1) + nI j) := by
  show ftm σ i j (mfA σ i j x) = _; unfold ftm; rw [if_neg h, if_pos h2]
theorem mfA_3 {σ : St} {i j : Nat} {x : Int32 × Int32} (h : ¬ b2 (mlgA σ (nI (i + 1)) (nI j)) = 0) (h2 : ¬ (mfA σ i j x).1 = 0) : mfA σ i (j + 1) x = ((mfA σ i j x).1 + 1, (mfA σ i j x).2) := by
  show ftm σ i j (mfA σ i j x) = _; unfold ftm; rw [if_neg h, if_neg h2]
abbrev mno (σ : St) (m : Int32) : Prop := ∀ k, k < ct (σ 111 37) → ¬ σ (487 + k) 0 = m
def mwB (σ : St) (m : Int32) (i a : Nat) (x : Int32 × Int32) : Int32 × Int32 := if b2 (mlgA σ (nI (i + 1)) (nI a)) = 0 then x else if m - m / nI (i + 1) * nI (i + 1) = nI a then (x.1 + 1, x.2) else (x.1, x.2 + 1)
def mwA (σ : St) (m : Int32) (i n : Nat) (x : Int32 × Int32) : Int32 × Int32 := it (mwB σ m i) x n
def mwW (σ : St) (m : Int32) (n : Nat) : Int32 × Int32 := it (fun i x => mwA σ m i (i + 1) x) (0, 0) n
def mwV (σ : St) (m : Int32) : Int32 := if (mwW σ m 9).2 < (mwW σ m 9).1 then (mwW σ m 9).1 else (mwW σ m 9).2
theorem mwA_1 {σ : St} {m : Int32} {i j : Nat} {x : Int32 × Int32} (h : b2 (mlgA σ (nI (i + 1)) (nI j)) = 0) : mwA σ m i (j + 1) x = mwA σ m i j x := by
  show mwB σ m i j (mwA σ m i j x) = _; unfold mwB; rw [if_pos h]
theorem mwA_2 {σ : St} {m : Int32} {i j : Nat} {x : Int32 × Int32} (h : ¬ b2 (mlgA σ (nI (i + 1)) (nI j)) = 0) (h2 : m - m / nI (i + 1) * nI (i + 1) = nI j) : mwA σ m i (j + 1) x = ((mwA σ m i j x).1 + 1, (mwA σ m i j x).2) := by
  show mwB σ m i j (mwA σ m i j x) = _; unfold mwB; rw [if_neg h, if_pos h2]
theorem mwA_3 {σ : St} {m : Int32} {i j : Nat} {x : Int32 × Int32} (h : ¬ b2 (mlgA σ (nI (i + 1)) (nI j)) = 0) (h2 : ¬ m - m / nI (i + 1) * nI (i + 1) = nI j) : mwA σ m i (j + 1) x = ((mwA σ m i j x).1, (mwA σ m i j x).2 + 1) := by
  show mwB σ m i j (mwA σ m i j x) = _; unfold mwB; rw [if_neg h, if_neg h2]
def mlk (σ : St) (m : Nat) (x : Int32 × Int32) : Int32 × Int32 := if ¬ b2 (¬ mno σ (nI m)) = 0 then x else if x.1 = -1 ∨ mwV σ (nI m) < x.2 then (nI m, mwV σ (nI m)) else x
def mlF (σ : St) (n : Nat) : Int32 × Int32 := it (mlk σ) (-1, -1) n
theorem mlF_1 {σ : St} {i : Nat} (h : ¬ b2 (¬ mno σ (nI i)) = 0) : mlF σ (i + 1) = mlF σ i := by
  show mlk σ i (mlF σ i) = _; unfold mlk; rw [if_pos h]
theorem mlF_2 {σ : St} {i : Nat} (h : b2 (¬ mno σ (nI i)) = 0) (h2 : (mlF σ i).1 = -1 ∨ mwV σ (nI i) < (mlF σ i).2) : mlF σ (i + 1) = (nI i, mwV σ (nI i)) := by
  show mlk σ i (mlF σ i) = _; unfold mlk; rw [if_neg (fun z => z h), if_pos h2]
theorem mlF_3 {σ : St} {i : Nat} (h : b2 (¬ mno σ (nI i)) = 0) (h2 : ¬ ((mlF σ i).1 = -1 ∨ mwV σ (nI i) < (mlF σ i).2)) : mlF σ (i + 1) = mlF σ i := by
  show mlk σ i (mlF σ i) = _; unfold mlk; rw [if_neg (fun z => z h), if_neg h2]
/-! codes -/
abbrev mkP (row a p : Int32) (k : Nat) : Prop := (hB row (nI k) ↔ fl0 (a + nI k) p)
abbrev mkA (row a p : Int32) (n : Nat) : Prop := ∀ k, k < n → mkP row a p k
abbrev mkD (σ : St) (row : Int32) (n d : Nat) : Prop := ∀ a, a < ct (σ (152 + d) 1) → ¬ mkA row (nI a) (σ (152 + d) 1) n
abbrev mkN (σ : St) (row : Int32) (n : Nat) : Prop := ∀ d, d < tl σ 2 → mkD σ row n d
def mcoB (σ : St) (n row : Nat) (x : Int32 × Int32) : Int32 × Int32 := if ¬ b2 (¬ mkN σ (nI row) n) = 0 then x else (x.1 + 1, if x.1 = 0 then nI row else x.2)
def mco (σ : St) (n m : Nat) : Int32 × Int32 := it (mcoB σ n) (0, -1) m
theorem mco_1 {σ : St} {n i : Nat} (h : ¬ b2 (¬ mkN σ (nI i) n) = 0) : mco σ n (i + 1) = mco σ n i := by
  show mcoB σ n i (mco σ n i) = _; unfold mcoB; rw [if_pos h]
theorem mco_2 {σ : St} {n i : Nat} (h : b2 (¬ mkN σ (nI i) n) = 0) (h2 : (mco σ n i).1 = 0) : mco σ n (i + 1) = ((mco σ n i).1 + 1, nI i) := by
  show mcoB σ n i (mco σ n i) = _; unfold mcoB; rw [if_neg (fun z => z h), if_pos h2]
theorem mco_3 {σ : St} {n i : Nat} (h : b2 (¬ mkN σ (nI i) n) = 0) (h2 : ¬ (mco σ n i).1 = 0) : mco σ n (i + 1) = ((mco σ n i).1 + 1, (mco σ n i).2) := by
  show mcoB σ n i (mco σ n i) = _; unfold mcoB; rw [if_neg (fun z => z h), if_neg h2]
theorem b2_and {p q : Prop} [Decidable p] [Decidable q] (hp : b2 p = 0) : b2 (p ∧ q) = 0 := b2_f (fun z => b2_z hp z.1)
theorem all_b {P : Nat → Prop} [DecidablePred P] {i : Nat} (h : b2 (∀ k, k < i → P k) = 0) : b2 (∀ k, k < i + 1 → P k) = 0 := b2_f (fun z => b2_z h (fun k hk => z k (by omega)))
theorem all_t {P : Nat → Prop} [DecidablePred P] {i : Nat} (h : ¬ b2 (∀ k, k < i → P k) = 0) (hp : P i) : b2 (∀ k, k < i + 1 → P k) = 1 := b2_t (all_s (b2_nz h) hp)
theorem all_f {P : Nat → Prop} [DecidablePred P] {i : Nat} (hp : ¬ P i) : b2 (∀ k, k < i + 1 → P k) = 0 := b2_f (fun z => hp (z i (by omega)))
/-! winks, carriers, doors, draws -/
def mlb (odds : Int32) (l n : Nat) : Int64 := it (fun k v => v * (if k < l then odds.toInt64 else (16 - odds).toInt64)) 1 n
theorem mlb_1 {odds : Int32} {l n : Nat} (h : n < l) : mlb odds l (n + 1) = mlb odds l n * odds.toInt64 := by show _ * _ = _; rw [if_pos h]; rfl
theorem mlb_2 {odds : Int32} {l n : Nat} (h : ¬ n < l) : mlb odds l (n + 1) = mlb odds l n * (16 - odds).toInt64 := by show _ * _ = _; rw [if_neg h]; rfl
theorem znI_lt {i j : Nat} (hi : i < 100000) (hj : j < 100000) : (nI i < nI j) = (i < j) := by rw [i_lt, i_nI (by omega), i_nI (by omega)]; exact propext (by omega)
theorem znI_le {i j : Nat} (hi : i < 100000) (hj : j < 100000) : (nI i ≤ nI j) = (i ≤ j) := by rw [i_le, i_nI (by omega), i_nI (by omega)]; exact propext (by omega)
theorem znI_eq {i j : Nat} (hi : i < 100000) (hj : j < 100000) : (nI i = nI j) = (i = j) := by rw [i_eq, i_nI (by omega), i_nI (by omega)]; exact propext (by omega)
def mca (σ : St) (c : Nat) (h : Int32) : Int32 := if aw (nI c) h < 2 then -3 else σ 117 c
abbrev mrb (σ : St) (c h x : Nat) : Prop := (0 < σ 117 x ∧ mca σ c (nI h) < mca σ x (nI h)) ∨ mca σ c (nI x) < mca σ c (nI h)
abbrev mis (σ : St) (c h : Nat) : Prop := ∀ x, x < tl σ 0 → ¬ mrb σ c h x
def mcrB (σ : St) (c h : Nat) (x : Int32 × Int32 × Int32) : Int32 × Int32 × Int32 := if σ 117 c = 0 ∨ b2 (mis σ c h) = 0 then x else (x.1 + 1, if x.1 = 0 then 100 * nI c + nI h else x.2.1, if x.1 = 0 then mca σ c (nI h) else x.2.2)
def mcrA (σ : St) (c n : Nat) (x : Int32 × Int32 × Int32) : Int32 × Int32 × Int32 := it (mcrB σ c) x n
def mcr (σ : St) (n : Nat) : Int32 × Int32 × Int32 := it (fun c x => mcrA σ c (tl σ 0) x) (0, -1, 0) n
theorem mcrA_1 {σ : St} {c j : Nat} {x : Int32 × Int32 × Int32} (h : σ 117 c = 0 ∨ b2 (mis σ c j) = 0) : mcrA σ c (j + 1) x = mcrA σ c j x := by
  show mcrB σ c j (mcrA σ c j x) = _; unfold mcrB; rw [if_pos h]
theorem mcrA_2 {σ : St} {c j : Nat} {x : Int32 × Int32 × Int32} (h : ¬ σ 117 c = 0) (h1 : ¬ b2 (mis σ c j) = 0) (h2 : (mcrA σ c j x).1 = 0) : mcrA σ c (j + 1) x = ((mcrA σ c j x).1 + 1, 100 * nI c + nI j, mca σ c (nI j)) := by
  show mcrB σ c j (mcrA σ c j x) = _; unfold mcrB; rw [if_neg (fun z => z.elim h h1), if_pos h2, if_pos h2]
theorem mcrA_3 {σ : St} {c j : Nat} {x : Int32 × Int32 × Int32} (h : ¬ σ 117 c = 0) (h1 : ¬ b2 (mis σ c j) = 0) (h2 : ¬ (mcrA σ c j x).1 = 0) : mcrA σ c (j + 1) x = ((mcrA σ c j x).1 + 1, (mcrA σ c j x).2.1, (mcrA σ c j x).2.2) := by
  show mcrB σ c j (mcrA σ c j x) = _; unfold mcrB; rw [if_neg (fun z => z.elim h h1), if_neg h2, if_neg h2]
def mhd (σ : St) (n : Nat) : Int32 := sm (σ 119) n
def mdr (x : Int32) : Int32 := x * 1103515245 + 12345
def mdx (x : Int32) : Int32 := (mdr x >>> (16 &&& 31 : Int32)) &&& 32767
def mdv (x n : Int32) : Int32 := mdx x - mdx x / n * n
theorem b2_eqb {p q : Prop} [Decidable p] [Decidable q] : (b2 p = b2 q) = (p ↔ q) := by
  unfold b2
  by_cases hp : p <;> by_cases hq : q <;> simp [hp, hq]

set_option maxRecDepth 20000 in
set_option maxHeartbeats 4000000 in
theorem c_Mo_passes {l : Launch} {G : Gz} (hG : zI G) {o : Nat} (ho_o : isArr o 31) (σ : St) (s : Nat) (hs : s < 6) (hw : mW σ) (hr : rW σ o) (ho1 : o ≠ 111) (ho2 : o ≠ 120) (ho3 : o ≠ 121) : MV l G y_Mo_passes prog_14_method_56_code 3 6 [.ref (G.1 111), .ref (G.1 o), .int (nI s)] σ (mpS σ o s) := by
  refine MV.of hG (by decide) (Nat.le_of_ble_eq_true rfl) (fun X hx hq => ?_)
  show J l G X 3 σ 0 [(0, .ref (G.1 111)), (1, .ref (G.1 o)), (2, .int (nI s))] []
  have hb1 : ct (σ 115 1) ≤ 6 := hw.1.2.1
  have hb2 : ct (σ 115 2) ≤ 3 := hw.1.2.2.1
  have hb0 : ct (σ 115 0) ≤ 12 := hw.1.1
  have hb3 : ct (σ 115 3) ≤ 6 := hw.1.2.2.2.1
  have hb4 : ct (σ 115 4) ≤ 6 := hw.1.2.2.2.2
  refine j_aload_n hx d_Mo_passes_0 rfl 0 rfl ?_
  refine j_aload_n hx d_Mo_passes_1 rfl 1 rfl ?_
  refine j_iload_n hx d_Mo_passes_2 rfl 2 rfl ?_
  refine j_callVv hx (c_Mo_tries hG ho_o σ s (by exact hs) (by exact hw) (by exact hr) (by exact ho1) (by exact ho2) (by exact ho3)) mo_Mo_tries mv_Mo_tries t_1727 (by decide) rfl (by decide) (sh_111 _ _) rfl rfl (Nat.le_of_ble_eq_true rfl) d_Mo_passes_3 ?_
  refine j_aload_n hx d_Mo_passes_6 rfl 1 rfl ?_
  refine j_iconst (v := 4) hx d_Mo_passes_7 (by decide) ?_
  refine j_dup2_11 hx d_Mo_passes_8 rfl rfl ?_
  have hz9_1 : zin (4) 31 4 := by first | exact ⟨rfl, by decide⟩ | exact zin_nI (by omega) (by decide) | exact zin_of (by omega) (by omega)
  refine j_ialdk hx ho_o hz9_1 d_Mo_passes_9 ?_
  refine j_iconst (v := 1) hx d_Mo_passes_10 (by decide) ?_
  refine j_iload_n hx d_Mo_passes_11 rfl 2 rfl ?_
  refine j_ishl hx d_Mo_passes_12 ?_
  refine j_ior hx d_Mo_passes_13 ?_
  have hz14_2 : zin (4) 31 4 := by first | exact ⟨rfl, by decide⟩ | exact zin_nI (by omega) (by decide) | exact zin_of (by omega) (by omega)
  refine j_iastk hx ho_o hz14_2 d_Mo_passes_14 ?_
  obtain ⟨s9_1, eg_1⟩ : ∃ z : St, z = mp1 σ o s := ⟨_, rfl⟩
  refine J.to (σ' := s9_1) (by rw [eg_1]; first | done | rfl) rfl ?_
  have hsa1 : saW s9_1 := by rw [eg_1]; exact saW_up ho1 (trF_sa hb0)
  refine j_aload_n hx d_Mo_passes_15 rfl 0 rfl ?_
  refine j_get hx ck_Mo 42 (by decide) t_1460 (by decide) (sh_111 _ _) rfl d_Mo_passes_16 ?_
  refine j_iconst (v := (-1)) hx d_Mo_passes_19 (by decide) ?_
  refine j_icmp_ne (tgt := 24) hx d_Mo_passes_20 (by decide) (fun zc20 => ?_) (fun zc20 => ?_)
  · skip
    refine j_aload_n hx d_Mo_passes_24 rfl 1 rfl ?_
    refine j_iconst (v := 5) hx d_Mo_passes_25 (by decide) ?_
    refine j_iload_n hx d_Mo_passes_26 rfl 2 rfl ?_
    refine j_iadd hx d_Mo_passes_27 ?_
    refine j_dup2_11 hx d_Mo_passes_28 rfl rfl ?_
    have hz29_3 : zin (5 + (nI s)) 31 ((5 + s)) := by first | exact ⟨rfl, by decide⟩ | exact zin_nI (by omega) (by decide) | exact zin_add (c := 5) (by omega) (by decide) | exact zin_of (by omega) (by omega)
    refine j_ialdk hx ho_o hz29_3 d_Mo_passes_29 ?_
    refine j_iconst (v := 1) hx d_Mo_passes_30 (by decide) ?_
    refine j_iadd hx d_Mo_passes_31 ?_
    have hz32_4 : zin (5 + (nI s)) 31 ((5 + s)) := by first | exact ⟨rfl, by decide⟩ | exact zin_nI (by omega) (by decide) | exact zin_add (c := 5) (by omega) (by decide) | exact zin_of (by omega) (by omega)
    refine j_iastk hx ho_o hz32_4 d_Mo_passes_32 ?_
    obtain ⟨s9_2, eg_2⟩ : ∃ z : St, z = mp2 s9_1 o s := ⟨_, rfl⟩
    refine J.to (σ' := s9_2) (by rw [eg_2]; first | done | rfl) rfl ?_
    have hsa2 : saW s9_2 := by rw [eg_2]; exact saW_up ho1 hsa1
    have hst2 : ¬ s9_2 111 42 = -1 := by rw [eg_2]; show ¬ up s9_1 o (5 + s) (s9_1 o (5 + s) + 1) 111 42 = -1; rw [up_o (Ne.symm ho1)]; exact zc20
    refine j_aload_n hx d_Mo_passes_33 rfl 1 rfl ?_
    refine j_bipush (v := 11) hx d_Mo_passes_34 (by decide) ?_
    refine j_aload_n hx d_Mo_passes_36 rfl 0 rfl ?_
    refine j_get hx ck_Mo 42 (by decide) t_1460 (by decide) (sh_111 _ _) rfl d_Mo_passes_37 ?_
    refine j_iadd hx d_Mo_passes_40 ?_
    refine j_dup2_11 hx d_Mo_passes_41 rfl rfl ?_
    have hz42_5 : zin (11 + (s9_2 111 42)) 31 ((11 + (s9_2 111 42).toInt.toNat)) := by exact zin_addx (c := 11) (hsa2.resolve_left hst2).1 (by have := (hsa2.resolve_left hst2).2; omega) (by decide)
    refine j_ialdk hx ho_o hz42_5 d_Mo_passes_42 ?_
    refine j_iconst (v := 1) hx d_Mo_passes_43 (by decide) ?_
    refine j_iadd hx d_Mo_passes_44 ?_
    have hz45_6 : zin (11 + (s9_2 111 42)) 31 ((11 + (s9_2 111 42).toInt.toNat)) := by exact zin_addx (c := 11) (hsa2.resolve_left hst2).1 (by have := (hsa2.resolve_left hst2).2; omega) (by decide)
    refine j_iastk hx ho_o hz45_6 d_Mo_passes_45 ?_
    obtain ⟨s9_3, eg_3⟩ : ∃ z : St, z = mp3 s9_2 o := ⟨_, rfl⟩
    refine J.to (σ' := s9_3) (by rw [eg_3]; first | done | rfl) rfl ?_
    have hsa3 : saW s9_3 := by rw [eg_3]; exact saW_up ho1 hsa2
    refine j_aload_n hx d_Mo_passes_46 rfl 1 rfl ?_
    refine j_bipush (v := 23) hx d_Mo_passes_47 (by decide) ?_
    refine j_dup2_11 hx d_Mo_passes_49 rfl rfl ?_
    have hz50_7 : zin (23) 31 23 := by first | exact ⟨rfl, by decide⟩ | exact zin_nI (by omega) (by decide) | exact zin_of (by omega) (by omega)
    refine j_ialdk hx ho_o hz50_7 d_Mo_passes_50 ?_
    refine j_iconst (v := 1) hx d_Mo_passes_51 (by decide) ?_
    refine j_iadd hx d_Mo_passes_52 ?_
    have hz53_8 : zin (23) 31 23 := by first | exact ⟨rfl, by decide⟩ | exact zin_nI (by omega) (by decide) | exact zin_of (by omega) (by omega)
    refine j_iastk hx ho_o hz53_8 d_Mo_passes_53 ?_
    obtain ⟨s9_4, eg_4⟩ : ∃ z : St, z = mp4 s9_3 o := ⟨_, rfl⟩
    refine J.to (σ' := s9_4) (by rw [eg_4]; first | done | rfl) rfl ?_
    have hsa4 : saW s9_4 := by rw [eg_4]; exact saW_up ho1 hsa3
    refine j_aload_n hx d_Mo_passes_54 rfl 1 rfl ?_
    refine j_bipush (v := 26) hx d_Mo_passes_55 (by decide) ?_
    refine j_dup2_11 hx d_Mo_passes_57 rfl rfl ?_
    have hz58_9 : zin (26) 31 26 := by first | exact ⟨rfl, by decide⟩ | exact zin_nI (by omega) (by decide) | exact zin_of (by omega) (by omega)
    refine j_ialdk hx ho_o hz58_9 d_Mo_passes_58 ?_
    refine j_aload_n hx d_Mo_passes_59 rfl 0 rfl ?_
    refine j_iload_n hx d_Mo_passes_60 rfl 2 rfl ?_
    refine j_callVi hx (c_Mo_aliveOf hG s9_4 s (by exact hs) (by exact hsa4)) mo_Mo_aliveOf mv_Mo_aliveOf t_1770 (by decide) rfl (by decide) (sh_111 _ _) rfl rfl (Nat.le_of_ble_eq_true rfl) d_Mo_passes_61 ?_
    refine j_iadd hx d_Mo_passes_64 ?_
    have hz65_10 : zin (26) 31 26 := by first | exact ⟨rfl, by decide⟩ | exact zin_nI (by omega) (by decide) | exact zin_of (by omega) (by omega)
    refine j_iastk hx ho_o hz65_10 d_Mo_passes_65 ?_
    obtain ⟨s9_5, eg_5⟩ : ∃ z : St, z = mp5 s9_4 o s := ⟨_, rfl⟩
    refine J.to (σ' := s9_5) (by rw [eg_5]; first | done | rfl) rfl ?_
    have hsa5 : saW s9_5 := by rw [eg_5]; exact saW_up ho1 hsa4
    refine j_aload_n hx d_Mo_passes_66 rfl 1 rfl ?_
    refine j_aload_n hx d_Mo_passes_67 rfl 0 rfl ?_
    refine j_iload_n hx d_Mo_passes_68 rfl 2 rfl ?_
    refine j_callVi hx (c_Mo_aliveOf hG s9_5 s (by exact hs) (by exact hsa5)) mo_Mo_aliveOf mv_Mo_aliveOf t_1770 (by decide) rfl (by decide) (sh_111 _ _) rfl rfl (Nat.le_of_ble_eq_true rfl) d_Mo_passes_69 ?_
    refine j_if_ne (tgt := 80) hx d_Mo_passes_72 (by decide) (fun zc72 => ?_) (fun zc72 => ?_)
    · skip
      refine j_bipush (v := 25) hx d_Mo_passes_80 (by decide) ?_
      refine j_dup2_11 hx d_Mo_passes_82 rfl rfl ?_
      have hz83_11 : zin (25) 31 25 := by first | exact ⟨rfl, by decide⟩ | exact zin_nI (by omega) (by decide) | exact zin_of (by omega) (by omega)
      refine j_ialdk hx ho_o hz83_11 d_Mo_passes_83 ?_
      refine j_aload_n hx d_Mo_passes_84 rfl 0 rfl ?_
      refine j_get hx ck_Mo 22 (by decide) t_1440 (by decide) (sh_111 _ _) rfl d_Mo_passes_85 ?_
      refine j_iload_n hx d_Mo_passes_88 rfl 2 rfl ?_
      have hz89_12 : zin (nI s) 6 s := by first | exact ⟨rfl, by decide⟩ | exact zin_nI (by omega) (by decide) | exact zin_of (by omega) (by omega)
      refine j_aaldk hx ias_ship.1.1 (ias_ship.2.1 _ _) hz89_12 d_Mo_passes_89 ?_
      refine j_iconst (v := 0) hx d_Mo_passes_90 (by decide) ?_
      have hz91_13 : zin (0) 4 0 := by first | exact ⟨rfl, by decide⟩ | exact zin_nI (by omega) (by decide) | exact zin_of (by omega) (by omega)
      refine j_ialdk hx (ias_ship.2.2 _ hz89_12.2) hz91_13 d_Mo_passes_91 ?_
      refine j_iadd hx d_Mo_passes_92 ?_
      have hz93_14 : zin (25) 31 25 := by first | exact ⟨rfl, by decide⟩ | exact zin_nI (by omega) (by decide) | exact zin_of (by omega) (by omega)
      refine j_iastk hx ho_o hz93_14 d_Mo_passes_93 ?_
      exact j_vret hx hq d_Mo_passes_94 (by first | (first | (rw [eg_1] at zc20 ⊢; exact (if_pos zc20).symm) | (rw [eg_1] at zc20; unfold mpS; rw [if_neg zc20, ← eg_1, ← eg_2, ← eg_3, ← eg_4, ← eg_5]; unfold mp6; first | exact (if_pos zc72).symm | exact (if_neg zc72).symm)) | fail)
    · skip
      refine j_bipush (v := 24) hx d_Mo_passes_75 (by decide) ?_
      refine j_goto (tgt := 82) hx d_Mo_passes_77 (by decide) ?_
      refine j_dup2_11 hx d_Mo_passes_82 rfl rfl ?_
      have hz83_15 : zin (24) 31 24 := by first | exact ⟨rfl, by decide⟩ | exact zin_nI (by omega) (by decide) | exact zin_of (by omega) (by omega)
      refine j_ialdk hx ho_o hz83_15 d_Mo_passes_83 ?_
      refine j_aload_n hx d_Mo_passes_84 rfl 0 rfl ?_
      refine j_get hx ck_Mo 22 (by decide) t_1440 (by decide) (sh_111 _ _) rfl d_Mo_passes_85 ?_
      refine j_iload_n hx d_Mo_passes_88 rfl 2 rfl ?_
      have hz89_16 : zin (nI s) 6 s := by first | exact ⟨rfl, by decide⟩ | exact zin_nI (by omega) (by decide) | exact zin_of (by omega) (by omega)
      refine j_aaldk hx ias_ship.1.1 (ias_ship.2.1 _ _) hz89_16 d_Mo_passes_89 ?_
      refine j_iconst (v := 0) hx d_Mo_passes_90 (by decide) ?_
      have hz91_17 : zin (0) 4 0 := by first | exact ⟨rfl, by decide⟩ | exact zin_nI (by omega) (by decide) | exact zin_of (by omega) (by omega)
      refine j_ialdk hx (ias_ship.2.2 _ hz89_16.2) hz91_17 d_Mo_passes_91 ?_
      refine j_iadd hx d_Mo_passes_92 ?_
      have hz93_18 : zin (24) 31 24 := by first | exact ⟨rfl, by decide⟩ | exact zin_nI (by omega) (by decide) | exact zin_of (by omega) (by omega)
      refine j_iastk hx ho_o hz93_18 d_Mo_passes_93 ?_
      exact j_vret hx hq d_Mo_passes_94 (by first | (first | (rw [eg_1] at zc20 ⊢; exact (if_pos zc20).symm) | (rw [eg_1] at zc20; unfold mpS; rw [if_neg zc20, ← eg_1, ← eg_2, ← eg_3, ← eg_4, ← eg_5]; unfold mp6; first | exact (if_pos zc72).symm | exact (if_neg zc72).symm)) | fail)
  · skip
    exact j_vret hx hq d_Mo_passes_23 (by first | (first | (rw [eg_1] at zc20 ⊢; exact (if_pos zc20).symm) | (rw [eg_1] at zc20; unfold mpS; rw [if_neg zc20, ← eg_1, ← eg_2, ← eg_3, ← eg_4, ← eg_5]; unfold mp6; first | exact (if_pos zc72).symm | exact (if_neg zc72).symm)) | fail)

set_option maxRecDepth 20000 in
set_option maxHeartbeats 4000000 in
theorem c_Mo_nightEnds {l : Launch} {G : Gz} (hG : zI G) {o : Nat} (ho_o : isArr o 31) (σ : St) : MV l G y_Mo_nightEnds prog_14_method_57_code 1 1 [.ref (G.1 o)] σ (mne σ o) := by
  refine MV.of hG (by decide) (Nat.le_of_ble_eq_true rfl) (fun X hx hq => ?_)
  show J l G X 1 σ 0 [(0, .ref (G.1 o))] []
  refine j_aload_n hx d_Mo_nightEnds_0 rfl 0 rfl ?_
  refine j_bipush (v := 27) hx d_Mo_nightEnds_1 (by decide) ?_
  refine j_dup2_11 hx d_Mo_nightEnds_3 rfl rfl ?_
  have hz4_1 : zin (27) 31 27 := by first | exact ⟨rfl, by decide⟩ | exact zin_nI (by omega) (by decide) | exact zin_of (by omega) (by omega)
  refine j_ialdk hx ho_o hz4_1 d_Mo_nightEnds_4 ?_
  refine j_iconst (v := 1) hx d_Mo_nightEnds_5 (by decide) ?_
  refine j_iadd hx d_Mo_nightEnds_6 ?_
  have hz7_2 : zin (27) 31 27 := by first | exact ⟨rfl, by decide⟩ | exact zin_nI (by omega) (by decide) | exact zin_of (by omega) (by omega)
  refine j_iastk hx ho_o hz7_2 d_Mo_nightEnds_7 ?_
  refine j_aload_n hx d_Mo_nightEnds_8 rfl 0 rfl ?_
  refine j_bipush (v := 28) hx d_Mo_nightEnds_9 (by decide) ?_
  refine j_iconst (v := 0) hx d_Mo_nightEnds_11 (by decide) ?_
  have hz12_3 : zin (28) 31 28 := by first | exact ⟨rfl, by decide⟩ | exact zin_nI (by omega) (by decide) | exact zin_of (by omega) (by omega)
  refine j_iastk hx ho_o hz12_3 d_Mo_nightEnds_12 ?_
  refine j_aload_n hx d_Mo_nightEnds_13 rfl 0 rfl ?_
  refine j_iconst (v := 4) hx d_Mo_nightEnds_14 (by decide) ?_
  refine j_iconst (v := 0) hx d_Mo_nightEnds_15 (by decide) ?_
  have hz16_4 : zin (4) 31 4 := by first | exact ⟨rfl, by decide⟩ | exact zin_nI (by omega) (by decide) | exact zin_of (by omega) (by omega)
  refine j_iastk hx ho_o hz16_4 d_Mo_nightEnds_16 ?_
  exact j_vret hx hq d_Mo_nightEnds_17 (by first | (rfl) | fail)

set_option maxRecDepth 20000 in
set_option maxHeartbeats 4000000 in
theorem c_Mo_safeBy {l : Launch} {G : Gz} (hG : zI G) {o : Nat} (ho_o : isArr o 31) (σ : St) (hw : mW σ) (hr : rW σ o) (ho1 : o ≠ 111) (ho2 : o ≠ 120) (ho3 : o ≠ 121) : MI l G y_Mo_safeBy prog_14_method_71_code 4 .int 6 [.ref (G.1 111), .ref (G.1 o)] σ ((msf σ o (ct (σ 115 3))).1) ((msf σ o (ct (σ 115 3))).2) := by
  refine MI.of hG (by decide) (Nat.le_of_ble_eq_true rfl) (fun X hx hq => ?_)
  show J l G X 4 σ 0 [(0, .ref (G.1 111)), (1, .ref (G.1 o))] []
  have hb1 : ct (σ 115 1) ≤ 6 := hw.1.2.1
  have hb2 : ct (σ 115 2) ≤ 3 := hw.1.2.2.1
  have hb0 : ct (σ 115 0) ≤ 12 := hw.1.1
  have hb3 : ct (σ 115 3) ≤ 6 := hw.1.2.2.2.1
  have hb4 : ct (σ 115 4) ≤ 6 := hw.1.2.2.2.2
  refine j_iconst (v := 0) hx d_Mo_safeBy_0 (by decide) ?_
  refine j_istore_n hx [(2, .int 0), (0, .ref (G.1 111)), (1, .ref (G.1 o))] d_Mo_safeBy_1 rfl (by decide) rfl ?_
  refine j_iconst (v := 0) hx d_Mo_safeBy_2 (by decide) ?_
  refine j_istore_n hx [(3, .int 0), (2, .int 0), (0, .ref (G.1 111)), (1, .ref (G.1 o))] d_Mo_safeBy_3 rfl (by decide) rfl ?_
  have hl4 : ∀ (N9 : Nat) (i : Nat), (i ≤ (ct (σ 115 3))) → (ct (σ 115 3)) - i = N9 → J l G X 4 ((msf σ o i).2) 4 [(0, .ref (G.1 111)), (1, .ref (G.1 o)), (2, .int ((msf σ o i).1)), (3, .int (nI i))] [] := by
    intro N9
    induction N9 using Nat.strongRecOn with
    | _ N9 ih4 =>
      intro i hi_i hm4
      have hq9 : sq σ (msf σ o i).2 := sq.rf.sf
      refine j_iload_n hx d_Mo_safeBy_4 rfl 3 rfl ?_
      refine j_aload_n hx d_Mo_safeBy_5 rfl 0 rfl ?_
      refine j_get hx ck_Mo 12 (by decide) t_1430 (by decide) (sh_111 _ _) rfl d_Mo_safeBy_6 ?_
      refine j_iconst (v := 3) hx d_Mo_safeBy_9 (by decide) ?_
      have hz10_1 : zin (3) 6 3 := by first | exact ⟨rfl, by decide⟩ | exact zin_nI (by omega) (by decide) | exact zin_of (by omega) (by omega)
      refine j_ialdk hx ia_115 hz10_1 d_Mo_safeBy_10 ?_
      refine j_icmp_ge (tgt := 44) hx d_Mo_safeBy_11 (by decide) (fun zc11 => ?_) (fun zc11 => ?_)
      · skip
        obtain rfl := ct_end' hi_i (by have q9 := zc11; rw [hq9.o (by decide) (by decide) (by decide)] at q9; exact q9)
        refine j_iload_n hx d_Mo_safeBy_44 rfl 2 rfl ?_
        exact j_iret hx hq rfl d_Mo_safeBy_45 (by first | (first | rfl | (simp only [zc11]; done) | (simp [zc11]; done)) | fail) (by first | (first | rfl | (simp only [zc11]; done) | (simp [zc11]; done)) | fail)
      · skip
        have hlt4 := ct_go hi_i (by have q9 := zc11; rw [hq9.o (by decide) (by decide) (by decide)] at q9; exact q9)
        refine j_aload_n hx d_Mo_safeBy_14 rfl 0 rfl ?_
        refine j_aload_n hx d_Mo_safeBy_15 rfl 1 rfl ?_
        refine j_iload_n hx d_Mo_safeBy_16 rfl 3 rfl ?_
        refine j_callVv hx (c_Mo_tries hG ho_o ((msf σ o i).2) i (by omega) (by exact hq9.w hw) (by exact hq9.r ho1 ho2 ho3 hr) (by exact ho1) (by exact ho2) (by exact ho3)) mo_Mo_tries mv_Mo_tries t_1727 (by decide) rfl (by decide) (sh_111 _ _) rfl rfl (Nat.le_of_ble_eq_true rfl) d_Mo_safeBy_17 ?_
        refine j_iload_n hx d_Mo_safeBy_20 rfl 2 rfl ?_
        refine j_aload_n hx d_Mo_safeBy_21 rfl 0 rfl ?_
        refine j_get hx ck_Mo 42 (by decide) t_1460 (by decide) (sh_111 _ _) rfl d_Mo_safeBy_22 ?_
        refine j_iconst (v := (-1)) hx d_Mo_safeBy_25 (by decide) ?_
        refine j_icmp_ne (tgt := 35) hx d_Mo_safeBy_26 (by decide) (fun zc26 => ?_) (fun zc26 => ?_)
        · skip
          refine j_iconst (v := 0) hx d_Mo_safeBy_35 (by decide) ?_
          refine j_ior hx d_Mo_safeBy_36 ?_
          refine j_istore_n hx [(2, .int (((msf σ o i).1) ||| 0)), (0, .ref (G.1 111)), (1, .ref (G.1 o)), (3, .int (nI i))] d_Mo_safeBy_37 rfl (by decide) rfl ?_
          refine j_iinc hx [(3, .int ((nI i) + 1)), (2, .int (((msf σ o i).1) ||| 0)), (0, .ref (G.1 111)), (1, .ref (G.1 o))] d_Mo_safeBy_38 3 rfl rfl (by decide) rfl ?_
          refine j_goto (tgt := 4) hx d_Mo_safeBy_41 (by decide) ?_
          refine J.lsub (ls' := [(0, .ref (G.1 111)), (1, .ref (G.1 o)), (2, .int (((msf σ o i).1) ||| 0)), (3, .int ((nI i) + 1))]) [2, 3, 1, 0] rfl ?_
          refine J.to ?_ ?_ (ih4 _ ?_ (i + 1) hlt4 rfl)
          · first | (rfl) | fail
          · first | (simp only [nI_s]; first | (rw [msf_1 (Decidable.not_not.mp zc26)]; done) | (rw [msf_1 zc26]; done) | (rw [msf_2 zc26]; done)) | fail
          · first | (omega) | fail
        · skip
          refine j_iconst (v := 1) hx d_Mo_safeBy_29 (by decide) ?_
          refine j_iload_n hx d_Mo_safeBy_30 rfl 3 rfl ?_
          refine j_ishl hx d_Mo_safeBy_31 ?_
          refine j_goto (tgt := 36) hx d_Mo_safeBy_32 (by decide) ?_
          refine j_ior hx d_Mo_safeBy_36 ?_
          refine j_istore_n hx [(2, .int (((msf σ o i).1) ||| (1 <<< ((nI i) &&& 31)))), (0, .ref (G.1 111)), (1, .ref (G.1 o)), (3, .int (nI i))] d_Mo_safeBy_37 rfl (by decide) rfl ?_
          refine j_iinc hx [(3, .int ((nI i) + 1)), (2, .int (((msf σ o i).1) ||| (1 <<< ((nI i) &&& 31)))), (0, .ref (G.1 111)), (1, .ref (G.1 o))] d_Mo_safeBy_38 3 rfl rfl (by decide) rfl ?_
          refine j_goto (tgt := 4) hx d_Mo_safeBy_41 (by decide) ?_
          refine J.lsub (ls' := [(0, .ref (G.1 111)), (1, .ref (G.1 o)), (2, .int (((msf σ o i).1) ||| (1 <<< ((nI i) &&& 31)))), (3, .int ((nI i) + 1))]) [2, 3, 1, 0] rfl ?_
          refine J.to ?_ ?_ (ih4 _ ?_ (i + 1) hlt4 rfl)
          · first | (rfl) | fail
          · first | (simp only [nI_s]; first | (rw [msf_1 (Decidable.not_not.mp zc26)]; done) | (rw [msf_1 zc26]; done) | (rw [msf_2 zc26]; done)) | fail
          · first | (omega) | fail
  refine J.lsub (ls' := [(0, .ref (G.1 111)), (1, .ref (G.1 o)), (2, .int 0), (3, .int 0)]) [2, 3, 1, 0] rfl ?_
  refine J.to ?_ ?_ (hl4 _ 0 (Nat.zero_le _) rfl)
  · first | (rfl) | fail
  · first | (rfl) | fail

set_option maxRecDepth 20000 in
set_option maxHeartbeats 4000000 in
theorem c_Mo_cargoBy {l : Launch} {G : Gz} (hG : zI G) {o : Nat} (ho_o : isArr o 31) (σ : St) (ships : Int32) (hw : mW σ) (hr : rW σ o) (ho1 : o ≠ 111) (ho2 : o ≠ 120) (ho3 : o ≠ 121) : MI l G y_Mo_cargoBy prog_14_method_73_code 5 .int 6 [.ref (G.1 111), .ref (G.1 o), .int ships] σ ((mcg σ o ships (ct (σ 115 3))).1) ((mcg σ o ships (ct (σ 115 3))).2) := by
  refine MI.of hG (by decide) (Nat.le_of_ble_eq_true rfl) (fun X hx hq => ?_)
  show J l G X 5 σ 0 [(0, .ref (G.1 111)), (1, .ref (G.1 o)), (2, .int ships)] []
  have hb1 : ct (σ 115 1) ≤ 6 := hw.1.2.1
  have hb2 : ct (σ 115 2) ≤ 3 := hw.1.2.2.1
  have hb0 : ct (σ 115 0) ≤ 12 := hw.1.1
  have hb3 : ct (σ 115 3) ≤ 6 := hw.1.2.2.2.1
  have hb4 : ct (σ 115 4) ≤ 6 := hw.1.2.2.2.2
  refine j_iconst (v := 0) hx d_Mo_cargoBy_0 (by decide) ?_
  refine j_istore_n hx [(3, .int 0), (0, .ref (G.1 111)), (1, .ref (G.1 o)), (2, .int ships)] d_Mo_cargoBy_1 rfl (by decide) rfl ?_
  refine j_iconst (v := 0) hx d_Mo_cargoBy_2 (by decide) ?_
  refine j_istore hx [(4, .int 0), (3, .int 0), (0, .ref (G.1 111)), (1, .ref (G.1 o)), (2, .int ships)] d_Mo_cargoBy_3 (by decide) rfl ?_
  have hl5 : ∀ (N9 : Nat) (i : Nat), (i ≤ (ct (σ 115 3))) → (ct (σ 115 3)) - i = N9 → J l G X 5 ((mcg σ o ships i).2) 5 [(0, .ref (G.1 111)), (1, .ref (G.1 o)), (2, .int ships), (3, .int ((mcg σ o ships i).1)), (4, .int (nI i))] [] := by
    intro N9
    induction N9 using Nat.strongRecOn with
    | _ N9 ih5 =>
      intro i hi_i hm5
      have hq9 : sq σ (mcg σ o ships i).2 := sq.rf.cg
      refine j_iload hx d_Mo_cargoBy_5 4 rfl ?_
      refine j_aload_n hx d_Mo_cargoBy_7 rfl 0 rfl ?_
      refine j_get hx ck_Mo 12 (by decide) t_1430 (by decide) (sh_111 _ _) rfl d_Mo_cargoBy_8 ?_
      refine j_iconst (v := 3) hx d_Mo_cargoBy_11 (by decide) ?_
      have hz12_1 : zin (3) 6 3 := by first | exact ⟨rfl, by decide⟩ | exact zin_nI (by omega) (by decide) | exact zin_of (by omega) (by omega)
      refine j_ialdk hx ia_115 hz12_1 d_Mo_cargoBy_12 ?_
      refine j_icmp_ge (tgt := 50) hx d_Mo_cargoBy_13 (by decide) (fun zc13 => ?_) (fun zc13 => ?_)
      · skip
        obtain rfl := ct_end' hi_i (by have q9 := zc13; rw [hq9.o (by decide) (by decide) (by decide)] at q9; exact q9)
        refine j_iload_n hx d_Mo_cargoBy_50 rfl 3 rfl ?_
        exact j_iret hx hq rfl d_Mo_cargoBy_51 (by first | (first | rfl | (simp only [zc13]; done) | (simp [zc13]; done)) | fail) (by first | (first | rfl | (simp only [zc13]; done) | (simp [zc13]; done)) | fail)
      · skip
        have hlt5 := ct_go hi_i (by have q9 := zc13; rw [hq9.o (by decide) (by decide) (by decide)] at q9; exact q9)
        refine j_iload_n hx d_Mo_cargoBy_16 rfl 2 rfl ?_
        refine j_iload hx d_Mo_cargoBy_17 4 rfl ?_
        refine j_callSi hx (c_Mo_has hG ((mcg σ o ships i).2) ships (nI i)) mo_Mo_has t_1721 t_1720 (by decide) rfl rfl (Nat.le_of_ble_eq_true rfl) d_Mo_cargoBy_19 ?_
        refine j_if_ne (tgt := 28) hx d_Mo_cargoBy_22 (by decide) (fun zc22 => ?_) (fun zc22 => ?_)
        · skip
          refine j_aload_n hx d_Mo_cargoBy_28 rfl 0 rfl ?_
          refine j_aload_n hx d_Mo_cargoBy_29 rfl 1 rfl ?_
          refine j_iload hx d_Mo_cargoBy_30 4 rfl ?_
          refine j_callVv hx (c_Mo_tries hG ho_o ((mcg σ o ships i).2) i (by omega) (by exact hq9.w hw) (by exact hq9.r ho1 ho2 ho3 hr) (by exact ho1) (by exact ho2) (by exact ho3)) mo_Mo_tries mv_Mo_tries t_1727 (by decide) rfl (by decide) (sh_111 _ _) rfl rfl (Nat.le_of_ble_eq_true rfl) d_Mo_cargoBy_32 ?_
          refine j_iload_n hx d_Mo_cargoBy_35 rfl 3 rfl ?_
          refine j_aload_n hx d_Mo_cargoBy_36 rfl 0 rfl ?_
          refine j_iload hx d_Mo_cargoBy_37 4 rfl ?_
          refine j_callVi hx (c_Mo_parishBy hG (trF ((mcg σ o ships i).2) o i) i (by omega) (by exact trF_sa (by have := (hq9.w hw).1.1; exact this))) mo_Mo_parishBy mv_Mo_parishBy t_1817 (by decide) rfl (by decide) (sh_111 _ _) rfl rfl (Nat.le_of_ble_eq_true rfl) d_Mo_cargoBy_39 ?_
          refine j_iadd hx d_Mo_cargoBy_42 ?_
          refine j_istore_n hx [(3, .int (((mcg σ o ships i).1) + (mpa (trF ((mcg σ o ships i).2) o i) i))), (0, .ref (G.1 111)), (1, .ref (G.1 o)), (2, .int ships), (4, .int (nI i))] d_Mo_cargoBy_43 rfl (by decide) rfl ?_
          refine j_iinc hx [(4, .int ((nI i) + 1)), (3, .int (((mcg σ o ships i).1) + (mpa (trF ((mcg σ o ships i).2) o i) i))), (0, .ref (G.1 111)), (1, .ref (G.1 o)), (2, .int ships)] d_Mo_cargoBy_44 4 rfl rfl (by decide) rfl ?_
          refine j_goto (tgt := 5) hx d_Mo_cargoBy_47 (by decide) ?_
          refine J.lsub (ls' := [(0, .ref (G.1 111)), (1, .ref (G.1 o)), (2, .int ships), (3, .int (((mcg σ o ships i).1) + (mpa (trF ((mcg σ o ships i).2) o i) i))), (4, .int ((nI i) + 1))]) [2, 3, 4, 1, 0] rfl ?_
          refine J.to ?_ ?_ (ih5 _ ?_ (i + 1) hlt5 rfl)
          · first | (first | (rw [mcg_1 zc22]; done) | (rw [mcg_2 zc22]; done)) | fail
          · first | (simp only [nI_s]; first | (rw [mcg_1 zc22]; done) | (rw [mcg_2 zc22]; done)) | fail
          · first | (omega) | fail
        · skip
          refine j_goto (tgt := 44) hx d_Mo_cargoBy_25 (by decide) ?_
          refine j_iinc hx [(4, .int ((nI i) + 1)), (0, .ref (G.1 111)), (1, .ref (G.1 o)), (2, .int ships), (3, .int ((mcg σ o ships i).1))] d_Mo_cargoBy_44 4 rfl rfl (by decide) rfl ?_
          refine j_goto (tgt := 5) hx d_Mo_cargoBy_47 (by decide) ?_
          refine J.lsub (ls' := [(0, .ref (G.1 111)), (1, .ref (G.1 o)), (2, .int ships), (3, .int ((mcg σ o ships i).1)), (4, .int ((nI i) + 1))]) [1, 2, 3, 4, 0] rfl ?_
          refine J.to ?_ ?_ (ih5 _ ?_ (i + 1) hlt5 rfl)
          · first | (first | (rw [mcg_1 zc22]; done) | (rw [mcg_2 zc22]; done)) | fail
          · first | (simp only [nI_s]; first | (rw [mcg_1 zc22]; done) | (rw [mcg_2 zc22]; done)) | fail
          · first | (omega) | fail
  refine J.lsub (ls' := [(0, .ref (G.1 111)), (1, .ref (G.1 o)), (2, .int ships), (3, .int 0), (4, .int 0)]) [2, 3, 4, 1, 0] rfl ?_
  refine J.to ?_ ?_ (hl5 _ 0 (Nat.zero_le _) rfl)
  · first | (rfl) | fail
  · first | (rfl) | fail

set_option maxRecDepth 20000 in
set_option maxHeartbeats 4000000 in
theorem c_Mo_ones {l : Launch} {G : Gz} (hG : zI G) (σ : St) (bits : Int32) : MI l G y_Mo_ones prog_14_method_75_code 3 .int 1 [.int bits] σ (ons bits 6) σ := by
  refine MI.of hG (by decide) (Nat.le_of_ble_eq_true rfl) (fun X hx hq => ?_)
  show J l G X 3 σ 0 [(0, .int bits)] []
  refine j_iconst (v := 0) hx d_Mo_ones_0 (by decide) ?_
  refine j_istore_n hx [(1, .int 0), (0, .int bits)] d_Mo_ones_1 rfl (by decide) rfl ?_
  refine j_iconst (v := 0) hx d_Mo_ones_2 (by decide) ?_
  refine j_istore_n hx [(2, .int 0), (1, .int 0), (0, .int bits)] d_Mo_ones_3 rfl (by decide) rfl ?_
  have hl4 : ∀ (N9 : Nat) (i : Nat), (i ≤ 6) → 6 - i = N9 → J l G X 3 σ 4 [(0, .int bits), (1, .int (ons bits i)), (2, .int (nI i))] [] := by
    intro N9
    induction N9 using Nat.strongRecOn with
    | _ N9 ih4 =>
      intro i hi_i hm4
      refine j_iload_n hx d_Mo_ones_4 rfl 2 rfl ?_
      refine j_bipush (v := 6) hx d_Mo_ones_5 (by decide) ?_
      refine j_icmp_ge (tgt := 24) hx d_Mo_ones_7 (by decide) (fun zc7 => ?_) (fun zc7 => ?_)
      · skip
        obtain rfl := nt_end (n := 6) hi_i (by decide) zc7
        refine j_iload_n hx d_Mo_ones_24 rfl 1 rfl ?_
        exact j_iret hx hq rfl d_Mo_ones_25 (by first | (first | rfl | (simp only [zc7]; done) | (simp [zc7]; done)) | fail) (by first | (first | rfl | (simp only [zc7]; done) | (simp [zc7]; done)) | fail)
      · skip
        have hlt4 := nt_go (n := 6) hi_i (by decide) zc7
        refine j_iload_n hx d_Mo_ones_10 rfl 1 rfl ?_
        refine j_iload_n hx d_Mo_ones_11 rfl 0 rfl ?_
        refine j_iload_n hx d_Mo_ones_12 rfl 2 rfl ?_
        refine j_ishr hx d_Mo_ones_13 ?_
        refine j_iconst (v := 1) hx d_Mo_ones_14 (by decide) ?_
        refine j_iand hx d_Mo_ones_15 ?_
        refine j_iadd hx d_Mo_ones_16 ?_
        refine j_istore_n hx [(1, .int ((ons bits i) + ((bits >>> ((nI i) &&& 31)) &&& 1))), (0, .int bits), (2, .int (nI i))] d_Mo_ones_17 rfl (by decide) rfl ?_
        refine j_iinc hx [(2, .int ((nI i) + 1)), (1, .int ((ons bits i) + ((bits >>> ((nI i) &&& 31)) &&& 1))), (0, .int bits)] d_Mo_ones_18 2 rfl rfl (by decide) rfl ?_
        refine j_goto (tgt := 4) hx d_Mo_ones_21 (by decide) ?_
        refine J.lsub (ls' := [(0, .int bits), (1, .int ((ons bits i) + ((bits >>> ((nI i) &&& 31)) &&& 1))), (2, .int ((nI i) + 1))]) [2, 1, 0] rfl ?_
        refine J.to ?_ ?_ (ih4 _ ?_ (i + 1) hlt4 rfl)
        · first | (first | rfl | (simp [zc7]; done)) | fail
        · first | (simp only [nI_s]; rfl) | fail
        · first | (omega) | fail
  refine J.lsub (ls' := [(0, .int bits), (1, .int 0), (2, .int 0)]) [2, 1, 0] rfl ?_
  refine J.to ?_ ?_ (hl4 _ 0 (Nat.zero_le _) rfl)
  · first | (first | rfl | (simp []; done)) | fail
  · first | (rfl) | fail

set_option maxRecDepth 20000 in
set_option maxHeartbeats 4000000 in
theorem c_Mo_isLogged {l : Launch} {G : Gz} (hG : zI G) (σ : St) (p : Int32) (a : Int32) (hw : ct (σ 111 37) ≤ 12) (hp : ¬ p = 0) : MI l G y_Mo_isLogged prog_14_method_77_code 4 .boolean 1 [.ref (G.1 111), .int p, .int a] σ (b2 (mlgA σ p a)) σ := by
  refine MI.of hG (by decide) (Nat.le_of_ble_eq_true rfl) (fun X hx hq => ?_)
  show J l G X 4 σ 0 [(0, .ref (G.1 111)), (1, .int p), (2, .int a)] []
  refine j_iconst (v := 0) hx d_Mo_isLogged_0 (by decide) ?_
  refine j_istore_n hx [(3, .int 0), (0, .ref (G.1 111)), (1, .int p), (2, .int a)] d_Mo_isLogged_1 rfl (by decide) rfl ?_
  have hl2 : ∀ (N9 : Nat) (i : Nat), (i ≤ ct (σ 111 37)) → (∀ k, k < i → mlg σ p a k) → (ct (σ 111 37)) - i = N9 → J l G X 4 σ 2 [(0, .ref (G.1 111)), (1, .int p), (2, .int a), (3, .int (nI i))] [] := by
    intro N9
    induction N9 using Nat.strongRecOn with
    | _ N9 ih2 =>
      intro i hi_i hb hm2
      refine j_iload_n hx d_Mo_isLogged_2 rfl 3 rfl ?_
      refine j_aload_n hx d_Mo_isLogged_3 rfl 0 rfl ?_
      refine j_get hx ck_Mo 37 (by decide) t_1455 (by decide) (sh_111 _ _) rfl d_Mo_isLogged_4 ?_
      refine j_icmp_ge (tgt := 57) hx d_Mo_isLogged_7 (by decide) (fun zc7 => ?_) (fun zc7 => ?_)
      · skip
        obtain rfl := ct_end' hi_i zc7
        refine j_iconst (v := 1) hx d_Mo_isLogged_57 (by decide) ?_
        exact j_iret hx hq rfl d_Mo_isLogged_58 (by first | (first | exact (b2_t (p := mlgA σ p a) hb).symm | exact (b2_f (p := mlgA σ p a) (fun z => zc38 ((z i hlt2).mp zc21))).symm | exact (b2_f (p := mlgA σ p a) (fun z => zc38 ((z i hlt2).mp (Decidable.not_not.mp zc21)))).symm | exact (b2_f (p := mlgA σ p a) (fun z => zc21 ((z i hlt2).mpr zc38))).symm | exact (b2_f (p := mlgA σ p a) (fun z => zc21 ((z i hlt2).mpr (Decidable.not_not.mp zc38)))).symm) | fail) (by first | (first | rfl | (simp only [zc7]; done) | (simp [zc7]; done)) | fail)
      · skip
        have hlt2 := ct_go hi_i zc7
        refine j_aload_n hx d_Mo_isLogged_10 rfl 0 rfl ?_
        refine j_get hx ck_Mo 27 (by decide) t_1445 (by decide) (sh_111 _ _) rfl d_Mo_isLogged_11 ?_
        refine j_iload_n hx d_Mo_isLogged_14 rfl 3 rfl ?_
        have hz15_1 : zin (nI i) 12 i := by first | exact ⟨rfl, by decide⟩ | exact zin_nI (by omega) (by decide) | exact zin_of (by omega) (by omega)
        refine j_aaldk hx ias_log.1.1 (ias_log.2.1 _ _) hz15_1 d_Mo_isLogged_15 ?_
        refine j_iconst (v := 0) hx d_Mo_isLogged_16 (by decide) ?_
        have hz17_2 : zin (0) 2 0 := by first | exact ⟨rfl, by decide⟩ | exact zin_nI (by omega) (by decide) | exact zin_of (by omega) (by omega)
        refine j_ialdk hx (ias_log.2.2 _ hz15_1.2) hz17_2 d_Mo_isLogged_17 ?_
        refine j_iload_n hx d_Mo_isLogged_18 rfl 1 rfl ?_
        refine j_irem hx d_Mo_isLogged_19 (by exact hp) ?_
        refine j_iload_n hx d_Mo_isLogged_20 rfl 2 rfl ?_
        refine j_icmp_ne (tgt := 28) hx d_Mo_isLogged_21 (by decide) (fun zc21 => ?_) (fun zc21 => ?_)
        · skip
          refine j_iconst (v := 0) hx d_Mo_isLogged_28 (by decide) ?_
          refine j_aload_n hx d_Mo_isLogged_29 rfl 0 rfl ?_
          refine j_get hx ck_Mo 27 (by decide) t_1445 (by decide) (sh_111 _ _) rfl d_Mo_isLogged_30 ?_
          refine j_iload_n hx d_Mo_isLogged_33 rfl 3 rfl ?_
          have hz34_3 : zin (nI i) 12 i := by first | exact ⟨rfl, by decide⟩ | exact zin_nI (by omega) (by decide) | exact zin_of (by omega) (by omega)
          refine j_aaldk hx ias_log.1.1 (ias_log.2.1 _ _) hz34_3 d_Mo_isLogged_34 ?_
          refine j_iconst (v := 1) hx d_Mo_isLogged_35 (by decide) ?_
          have hz36_4 : zin (1) 2 1 := by first | exact ⟨rfl, by decide⟩ | exact zin_nI (by omega) (by decide) | exact zin_of (by omega) (by omega)
          refine j_ialdk hx (ias_log.2.2 _ hz34_3.2) hz36_4 d_Mo_isLogged_36 ?_
          refine j_iconst (v := 1) hx d_Mo_isLogged_37 (by decide) ?_
          refine j_icmp_ne (tgt := 45) hx d_Mo_isLogged_38 (by decide) (fun zc38 => ?_) (fun zc38 => ?_)
          · skip
            refine j_iconst (v := 0) hx d_Mo_isLogged_45 (by decide) ?_
            refine j_icmp_eq (tgt := 51) hx d_Mo_isLogged_46 (by decide) (fun _ => ?_) (fun zc46 => absurd (by decide) zc46)
            refine j_iinc hx [(3, .int ((nI i) + 1)), (0, .ref (G.1 111)), (1, .int p), (2, .int a)] d_Mo_isLogged_51 3 rfl rfl (by decide) rfl ?_
            refine j_goto (tgt := 2) hx d_Mo_isLogged_54 (by decide) ?_
            refine J.lsub (ls' := [(0, .ref (G.1 111)), (1, .int p), (2, .int a), (3, .int ((nI i) + 1))]) [1, 2, 3, 0] rfl ?_
            refine J.to ?_ ?_ (ih2 _ ?_ (i + 1) hlt2 (all_s hb (by first | exact ⟨fun _ => Decidable.not_not.mp zc38, fun _ => Decidable.not_not.mp zc21⟩ | exact ⟨fun _ => zc38, fun _ => zc21⟩ | exact ⟨fun z => absurd z zc21, fun z => absurd z zc38⟩)) rfl)
            · first | (first | rfl | (simp [zc7, zc21, zc38]; done)) | fail
            · first | (simp only [nI_s]) | fail
            · first | (omega) | fail
          · skip
            refine j_iconst (v := 1) hx d_Mo_isLogged_41 (by decide) ?_
            refine j_goto (tgt := 46) hx d_Mo_isLogged_42 (by decide) ?_
            refine j_icmp_eq (tgt := 51) hx d_Mo_isLogged_46 (by decide) (fun zc46 => absurd zc46 (by decide)) (fun _ => ?_)
            refine j_iconst (v := 0) hx d_Mo_isLogged_49 (by decide) ?_
            exact j_iret hx hq rfl d_Mo_isLogged_50 (by first | (first | exact (b2_t (p := mlgA σ p a) hb).symm | exact (b2_f (p := mlgA σ p a) (fun z => zc38 ((z i hlt2).mp zc21))).symm | exact (b2_f (p := mlgA σ p a) (fun z => zc38 ((z i hlt2).mp (Decidable.not_not.mp zc21)))).symm | exact (b2_f (p := mlgA σ p a) (fun z => zc21 ((z i hlt2).mpr zc38))).symm | exact (b2_f (p := mlgA σ p a) (fun z => zc21 ((z i hlt2).mpr (Decidable.not_not.mp zc38)))).symm) | fail) (by first | (first | rfl | (simp only [zc7, zc21, zc38]; done) | (simp [zc7, zc21, zc38]; done)) | fail)
        · skip
          refine j_iconst (v := 1) hx d_Mo_isLogged_24 (by decide) ?_
          refine j_goto (tgt := 29) hx d_Mo_isLogged_25 (by decide) ?_
          refine j_aload_n hx d_Mo_isLogged_29 rfl 0 rfl ?_
          refine j_get hx ck_Mo 27 (by decide) t_1445 (by decide) (sh_111 _ _) rfl d_Mo_isLogged_30 ?_
          refine j_iload_n hx d_Mo_isLogged_33 rfl 3 rfl ?_
          have hz34_5 : zin (nI i) 12 i := by first | exact ⟨rfl, by decide⟩ | exact zin_nI (by omega) (by decide) | exact zin_of (by omega) (by omega)
          refine j_aaldk hx ias_log.1.1 (ias_log.2.1 _ _) hz34_5 d_Mo_isLogged_34 ?_
          refine j_iconst (v := 1) hx d_Mo_isLogged_35 (by decide) ?_
          have hz36_6 : zin (1) 2 1 := by first | exact ⟨rfl, by decide⟩ | exact zin_nI (by omega) (by decide) | exact zin_of (by omega) (by omega)
          refine j_ialdk hx (ias_log.2.2 _ hz34_5.2) hz36_6 d_Mo_isLogged_36 ?_
          refine j_iconst (v := 1) hx d_Mo_isLogged_37 (by decide) ?_
          refine j_icmp_ne (tgt := 45) hx d_Mo_isLogged_38 (by decide) (fun zc38 => ?_) (fun zc38 => ?_)
          · skip
            refine j_iconst (v := 0) hx d_Mo_isLogged_45 (by decide) ?_
            refine j_icmp_eq (tgt := 51) hx d_Mo_isLogged_46 (by decide) (fun zc46 => absurd zc46 (by decide)) (fun _ => ?_)
            refine j_iconst (v := 0) hx d_Mo_isLogged_49 (by decide) ?_
            exact j_iret hx hq rfl d_Mo_isLogged_50 (by first | (first | exact (b2_t (p := mlgA σ p a) hb).symm | exact (b2_f (p := mlgA σ p a) (fun z => zc38 ((z i hlt2).mp zc21))).symm | exact (b2_f (p := mlgA σ p a) (fun z => zc38 ((z i hlt2).mp (Decidable.not_not.mp zc21)))).symm | exact (b2_f (p := mlgA σ p a) (fun z => zc21 ((z i hlt2).mpr zc38))).symm | exact (b2_f (p := mlgA σ p a) (fun z => zc21 ((z i hlt2).mpr (Decidable.not_not.mp zc38)))).symm) | fail) (by first | (first | rfl | (simp only [zc7, zc21, zc38]; done) | (simp [zc7, zc21, zc38]; done)) | fail)
          · skip
            refine j_iconst (v := 1) hx d_Mo_isLogged_41 (by decide) ?_
            refine j_goto (tgt := 46) hx d_Mo_isLogged_42 (by decide) ?_
            refine j_icmp_eq (tgt := 51) hx d_Mo_isLogged_46 (by decide) (fun _ => ?_) (fun zc46 => absurd (by decide) zc46)
            refine j_iinc hx [(3, .int ((nI i) + 1)), (0, .ref (G.1 111)), (1, .int p), (2, .int a)] d_Mo_isLogged_51 3 rfl rfl (by decide) rfl ?_
            refine j_goto (tgt := 2) hx d_Mo_isLogged_54 (by decide) ?_
            refine J.lsub (ls' := [(0, .ref (G.1 111)), (1, .int p), (2, .int a), (3, .int ((nI i) + 1))]) [1, 2, 3, 0] rfl ?_
            refine J.to ?_ ?_ (ih2 _ ?_ (i + 1) hlt2 (all_s hb (by first | exact ⟨fun _ => Decidable.not_not.mp zc38, fun _ => Decidable.not_not.mp zc21⟩ | exact ⟨fun _ => zc38, fun _ => zc21⟩ | exact ⟨fun z => absurd z zc21, fun z => absurd z zc38⟩)) rfl)
            · first | (first | rfl | (simp [zc7, zc21, zc38]; done)) | fail
            · first | (simp only [nI_s]) | fail
            · first | (omega) | fail
  refine J.lsub (ls' := [(0, .ref (G.1 111)), (1, .int p), (2, .int a), (3, .int 0)]) [1, 2, 3, 0] rfl ?_
  refine J.to ?_ ?_ (hl2 _ 0 (Nat.zero_le _) (fun c h => absurd h (Nat.not_lt_zero c)) rfl)
  · first | (first | rfl | (simp []; done)) | fail
  · first | (first | rfl | (simp only [nI_s]; done) | (simp only [nI_s, it_s]; done) | (simp [nI_s, it_s, ]; done)) | fail

set_option maxRecDepth 20000 in
set_option maxHeartbeats 4000000 in
theorem c_Mo_isTold {l : Launch} {G : Gz} (hG : zI G) (σ : St) (m : Int32) (hw : ct (σ 111 37) ≤ 12) : MI l G y_Mo_isTold prog_14_method_79_code 3 .boolean 1 [.ref (G.1 111), .int m] σ (b2 (¬ mno σ m)) σ := by
  refine MI.of hG (by decide) (Nat.le_of_ble_eq_true rfl) (fun X hx hq => ?_)
  show J l G X 3 σ 0 [(0, .ref (G.1 111)), (1, .int m)] []
  refine j_iconst (v := 0) hx d_Mo_isTold_0 (by decide) ?_
  refine j_istore_n hx [(2, .int 0), (0, .ref (G.1 111)), (1, .int m)] d_Mo_isTold_1 rfl (by decide) rfl ?_
  have hl2 : ∀ (N9 : Nat) (i : Nat), (i ≤ ct (σ 111 37)) → (∀ k, k < i → ¬ σ (487 + k) 0 = m) → (ct (σ 111 37)) - i = N9 → J l G X 3 σ 2 [(0, .ref (G.1 111)), (1, .int m), (2, .int (nI i))] [] := by
    intro N9
    induction N9 using Nat.strongRecOn with
    | _ N9 ih2 =>
      intro i hi_i hb hm2
      refine j_iload_n hx d_Mo_isTold_2 rfl 2 rfl ?_
      refine j_aload_n hx d_Mo_isTold_3 rfl 0 rfl ?_
      refine j_get hx ck_Mo 37 (by decide) t_1455 (by decide) (sh_111 _ _) rfl d_Mo_isTold_4 ?_
      refine j_icmp_ge (tgt := 30) hx d_Mo_isTold_7 (by decide) (fun zc7 => ?_) (fun zc7 => ?_)
      · skip
        obtain rfl := ct_end' hi_i zc7
        refine j_iconst (v := 0) hx d_Mo_isTold_30 (by decide) ?_
        exact j_iret hx hq rfl d_Mo_isTold_31 (by first | (first | exact (b2_f (p := ¬ mno σ m) (fun z => z hb)).symm | exact (b2_t (p := ¬ mno σ m) (fun z => z i hlt2 zc19)).symm | exact (b2_t (p := ¬ mno σ m) (fun z => z i hlt2 (Decidable.not_not.mp zc19))).symm) | fail) (by first | (first | rfl | (simp only [zc7]; done) | (simp [zc7]; done)) | fail)
      · skip
        have hlt2 := ct_go hi_i zc7
        refine j_aload_n hx d_Mo_isTold_10 rfl 0 rfl ?_
        refine j_get hx ck_Mo 27 (by decide) t_1445 (by decide) (sh_111 _ _) rfl d_Mo_isTold_11 ?_
        refine j_iload_n hx d_Mo_isTold_14 rfl 2 rfl ?_
        have hz15_1 : zin (nI i) 12 i := by first | exact ⟨rfl, by decide⟩ | exact zin_nI (by omega) (by decide) | exact zin_of (by omega) (by omega)
        refine j_aaldk hx ias_log.1.1 (ias_log.2.1 _ _) hz15_1 d_Mo_isTold_15 ?_
        refine j_iconst (v := 0) hx d_Mo_isTold_16 (by decide) ?_
        have hz17_2 : zin (0) 2 0 := by first | exact ⟨rfl, by decide⟩ | exact zin_nI (by omega) (by decide) | exact zin_of (by omega) (by omega)
        refine j_ialdk hx (ias_log.2.2 _ hz15_1.2) hz17_2 d_Mo_isTold_17 ?_
        refine j_iload_n hx d_Mo_isTold_18 rfl 1 rfl ?_
        refine j_icmp_ne (tgt := 24) hx d_Mo_isTold_19 (by decide) (fun zc19 => ?_) (fun zc19 => ?_)
        · skip
          refine j_iinc hx [(2, .int ((nI i) + 1)), (0, .ref (G.1 111)), (1, .int m)] d_Mo_isTold_24 2 rfl rfl (by decide) rfl ?_
          refine j_goto (tgt := 2) hx d_Mo_isTold_27 (by decide) ?_
          refine J.lsub (ls' := [(0, .ref (G.1 111)), (1, .int m), (2, .int ((nI i) + 1))]) [1, 2, 0] rfl ?_
          refine J.to ?_ ?_ (ih2 _ ?_ (i + 1) hlt2 (all_s hb zc19) rfl)
          · first | (first | rfl | (simp [zc7, zc19]; done)) | fail
          · first | (simp only [nI_s]) | fail
          · first | (omega) | fail
        · skip
          refine j_iconst (v := 1) hx d_Mo_isTold_22 (by decide) ?_
          exact j_iret hx hq rfl d_Mo_isTold_23 (by first | (first | exact (b2_f (p := ¬ mno σ m) (fun z => z hb)).symm | exact (b2_t (p := ¬ mno σ m) (fun z => z i hlt2 zc19)).symm | exact (b2_t (p := ¬ mno σ m) (fun z => z i hlt2 (Decidable.not_not.mp zc19))).symm) | fail) (by first | (first | rfl | (simp only [zc7, zc19]; done) | (simp [zc7, zc19]; done)) | fail)
  refine J.lsub (ls' := [(0, .ref (G.1 111)), (1, .int m), (2, .int 0)]) [1, 2, 0] rfl ?_
  refine J.to ?_ ?_ (hl2 _ 0 (Nat.zero_le _) (fun c h => absurd h (Nat.not_lt_zero c)) rfl)
  · first | (first | rfl | (simp []; done)) | fail
  · first | (first | rfl | (simp only [nI_s]; done) | (simp only [nI_s, it_s]; done) | (simp [nI_s, it_s, ]; done)) | fail

set_option maxRecDepth 20000 in
set_option maxHeartbeats 4000000 in
theorem c_Mo_worstAt {l : Launch} {G : Gz} (hG : zI G) (σ : St) (m : Int32) (hw : ct (σ 111 37) ≤ 12) : MI l G y_Mo_worstAt prog_14_method_80_code 6 .int 2 [.ref (G.1 111), .int m] σ (mwV σ m) σ := by
  refine MI.of hG (by decide) (Nat.le_of_ble_eq_true rfl) (fun X hx hq => ?_)
  show J l G X 6 σ 0 [(0, .ref (G.1 111)), (1, .int m)] []
  refine j_iconst (v := 0) hx d_Mo_worstAt_0 (by decide) ?_
  refine j_istore_n hx [(2, .int 0), (0, .ref (G.1 111)), (1, .int m)] d_Mo_worstAt_1 rfl (by decide) rfl ?_
  refine j_iconst (v := 0) hx d_Mo_worstAt_2 (by decide) ?_
  refine j_istore_n hx [(3, .int 0), (2, .int 0), (0, .ref (G.1 111)), (1, .int m)] d_Mo_worstAt_3 rfl (by decide) rfl ?_
  refine j_iconst (v := 1) hx d_Mo_worstAt_4 (by decide) ?_
  refine j_istore hx [(4, .int 1), (3, .int 0), (2, .int 0), (0, .ref (G.1 111)), (1, .int m)] d_Mo_worstAt_5 (by decide) rfl ?_
  have hl7 : ∀ (N9 : Nat) (i : Nat), (i ≤ 9) → 9 - i = N9 → J l G X 6 σ 7 [(0, .ref (G.1 111)), (1, .int m), (2, .int ((mwW σ m i).1)), (3, .int ((mwW σ m i).2)), (4, .int (nI (i + 1)))] [] := by
    intro N9
    induction N9 using Nat.strongRecOn with
    | _ N9 ih7 =>
      intro i hi_i hm7
      refine j_iload hx d_Mo_worstAt_7 4 rfl ?_
      refine j_bipush (v := 9) hx d_Mo_worstAt_9 (by decide) ?_
      refine j_icmp_gt (tgt := 68) hx d_Mo_worstAt_11 (by decide) (fun zc11 => ?_) (fun zc11 => ?_)
      · skip
        obtain rfl := gt_end (n := 9) hi_i (by decide) zc11
        refine j_iload_n hx d_Mo_worstAt_68 rfl 2 rfl ?_
        refine j_iload_n hx d_Mo_worstAt_69 rfl 3 rfl ?_
        refine j_callSi hx (c_Mo_more hG σ ((mwW σ m 9).1) ((mwW σ m 9).2)) mo_Mo_more t_1764 t_1763 (by decide) rfl rfl (Nat.le_of_ble_eq_true rfl) d_Mo_worstAt_70 ?_
        exact j_iret hx hq rfl d_Mo_worstAt_73 (by first | (rfl) | fail) (by first | (first | rfl | (simp only [zc11]; done) | (simp [zc11]; done)) | fail)
      · skip
        have hlt7 := gt_go (n := 9) hi_i (by decide) zc11
        refine j_iconst (v := 0) hx d_Mo_worstAt_14 (by decide) ?_
        refine j_istore hx [(5, .int 0), (0, .ref (G.1 111)), (1, .int m), (2, .int ((mwW σ m i).1)), (3, .int ((mwW σ m i).2)), (4, .int (nI (i + 1)))] d_Mo_worstAt_15 (by decide) rfl ?_
        have hl17 : ∀ (N9 : Nat) (j : Nat), (j ≤ (i + 1)) → (i + 1) - j = N9 → J l G X 6 σ 17 [(0, .ref (G.1 111)), (1, .int m), (2, .int ((mwA σ m i j (mwW σ m i)).1)), (3, .int ((mwA σ m i j (mwW σ m i)).2)), (4, .int (nI (i + 1))), (5, .int (nI j))] [] := by
          intro N9
          induction N9 using Nat.strongRecOn with
          | _ N9 ih17 =>
            intro j hi_j hm17
            refine j_iload hx d_Mo_worstAt_17 5 rfl ?_
            refine j_iload hx d_Mo_worstAt_19 4 rfl ?_
            refine j_icmp_ge (tgt := 62) hx d_Mo_worstAt_21 (by decide) (fun zc21 => ?_) (fun zc21 => ?_)
            · skip
              obtain rfl := nt_end (n := i + 1) hi_j (by omega) zc21
              refine j_iinc hx [(4, .int ((nI (i + 1)) + 1)), (0, .ref (G.1 111)), (1, .int m), (2, .int ((mwA σ m i (i + 1) (mwW σ m i)).1)), (3, .int ((mwA σ m i (i + 1) (mwW σ m i)).2)), (5, .int (nI (i + 1)))] d_Mo_worstAt_62 4 rfl rfl (by decide) rfl ?_
              refine j_goto (tgt := 7) hx d_Mo_worstAt_65 (by decide) ?_
              refine J.lsub (ls' := [(0, .ref (G.1 111)), (1, .int m), (2, .int ((mwA σ m i (i + 1) (mwW σ m i)).1)), (3, .int ((mwA σ m i (i + 1) (mwW σ m i)).2)), (4, .int ((nI (i + 1)) + 1))]) [1, 2, 3, 4, 0] rfl ?_
              refine J.to ?_ ?_ (ih7 _ ?_ (i + 1) hlt7 rfl)
              · first | (first | rfl | (simp [zc11, zc21]; done)) | fail
              · first | (simp only [nI_s]; rfl) | fail
              · first | (omega) | fail
            · skip
              have hlt17 := nt_go (n := i + 1) hi_j (by omega) zc21
              refine j_aload_n hx d_Mo_worstAt_24 rfl 0 rfl ?_
              refine j_iload hx d_Mo_worstAt_25 4 rfl ?_
              refine j_iload hx d_Mo_worstAt_27 5 rfl ?_
              refine j_callVi hx (c_Mo_isLogged hG σ (nI (i + 1)) (nI j) (by exact hw) (by show ¬ nI (i + 1) = nI 0; rw [znI_eq (by omega) (by omega)]; omega)) mo_Mo_isLogged mv_Mo_isLogged t_1848 (by decide) rfl (by decide) (sh_111 _ _) rfl rfl (Nat.le_of_ble_eq_true rfl) d_Mo_worstAt_29 ?_
              refine j_if_ne (tgt := 38) hx d_Mo_worstAt_32 (by decide) (fun zc32 => ?_) (fun zc32 => ?_)
              · skip
                refine j_iload_n hx d_Mo_worstAt_38 rfl 1 rfl ?_
                refine j_iload hx d_Mo_worstAt_39 4 rfl ?_
                refine j_irem hx d_Mo_worstAt_41 (by show ¬ nI (i + 1) = nI 0; rw [znI_eq (by omega) (by omega)]; omega) ?_
                refine j_iload hx d_Mo_worstAt_42 5 rfl ?_
                refine j_icmp_ne (tgt := 53) hx d_Mo_worstAt_44 (by decide) (fun zc44 => ?_) (fun zc44 => ?_)
                · skip
                  refine j_iinc hx [(3, .int (((mwA σ m i j (mwW σ m i)).2) + 1)), (0, .ref (G.1 111)), (1, .int m), (2, .int ((mwA σ m i j (mwW σ m i)).1)), (4, .int (nI (i + 1))), (5, .int (nI j))] d_Mo_worstAt_53 3 rfl rfl (by decide) rfl ?_
                  refine j_iinc hx [(5, .int ((nI j) + 1)), (3, .int (((mwA σ m i j (mwW σ m i)).2) + 1)), (0, .ref (G.1 111)), (1, .int m), (2, .int ((mwA σ m i j (mwW σ m i)).1)), (4, .int (nI (i + 1)))] d_Mo_worstAt_56 5 rfl rfl (by decide) rfl ?_
                  refine j_goto (tgt := 17) hx d_Mo_worstAt_59 (by decide) ?_
                  refine J.lsub (ls' := [(0, .ref (G.1 111)), (1, .int m), (2, .int ((mwA σ m i j (mwW σ m i)).1)), (3, .int (((mwA σ m i j (mwW σ m i)).2) + 1)), (4, .int (nI (i + 1))), (5, .int ((nI j) + 1))]) [2, 3, 4, 1, 5, 0] rfl ?_
                  refine J.to ?_ ?_ (ih17 _ ?_ (j + 1) hlt17 rfl)
                  · first | (first | rfl | (simp [zc11, zc21, zc32, zc44]; done)) | fail
                  · first | (simp only [nI_s]; first | (rw [mwA_1 zc32]; done) | (rw [mwA_2 zc32 zc44]; done) | (rw [mwA_2 zc32 (Decidable.not_not.mp zc44)]; done) | (rw [mwA_3 zc32 zc44]; done)) | fail
                  · first | (omega) | fail
                · skip
                  refine j_iinc hx [(2, .int (((mwA σ m i j (mwW σ m i)).1) + 1)), (0, .ref (G.1 111)), (1, .int m), (3, .int ((mwA σ m i j (mwW σ m i)).2)), (4, .int (nI (i + 1))), (5, .int (nI j))] d_Mo_worstAt_47 2 rfl rfl (by decide) rfl ?_
                  refine j_goto (tgt := 56) hx d_Mo_worstAt_50 (by decide) ?_
                  refine j_iinc hx [(5, .int ((nI j) + 1)), (2, .int (((mwA σ m i j (mwW σ m i)).1) + 1)), (0, .ref (G.1 111)), (1, .int m), (3, .int ((mwA σ m i j (mwW σ m i)).2)), (4, .int (nI (i + 1)))] d_Mo_worstAt_56 5 rfl rfl (by decide) rfl ?_
                  refine j_goto (tgt := 17) hx d_Mo_worstAt_59 (by decide) ?_
                  refine J.lsub (ls' := [(0, .ref (G.1 111)), (1, .int m), (2, .int (((mwA σ m i j (mwW σ m i)).1) + 1)), (3, .int ((mwA σ m i j (mwW σ m i)).2)), (4, .int (nI (i + 1))), (5, .int ((nI j) + 1))]) [2, 3, 1, 4, 5, 0] rfl ?_
                  refine J.to ?_ ?_ (ih17 _ ?_ (j + 1) hlt17 rfl)
                  · first | (first | rfl | (simp [zc11, zc21, zc32, zc44]; done)) | fail
                  · first | (simp only [nI_s]; first | (rw [mwA_1 zc32]; done) | (rw [mwA_2 zc32 zc44]; done) | (rw [mwA_2 zc32 (Decidable.not_not.mp zc44)]; done) | (rw [mwA_3 zc32 zc44]; done)) | fail
                  · first | (omega) | fail
              · skip
                refine j_goto (tgt := 56) hx d_Mo_worstAt_35 (by decide) ?_
                refine j_iinc hx [(5, .int ((nI j) + 1)), (0, .ref (G.1 111)), (1, .int m), (2, .int ((mwA σ m i j (mwW σ m i)).1)), (3, .int ((mwA σ m i j (mwW σ m i)).2)), (4, .int (nI (i + 1)))] d_Mo_worstAt_56 5 rfl rfl (by decide) rfl ?_
                refine j_goto (tgt := 17) hx d_Mo_worstAt_59 (by decide) ?_
                refine J.lsub (ls' := [(0, .ref (G.1 111)), (1, .int m), (2, .int ((mwA σ m i j (mwW σ m i)).1)), (3, .int ((mwA σ m i j (mwW σ m i)).2)), (4, .int (nI (i + 1))), (5, .int ((nI j) + 1))]) [1, 2, 3, 4, 5, 0] rfl ?_
                refine J.to ?_ ?_ (ih17 _ ?_ (j + 1) hlt17 rfl)
                · first | (first | rfl | (simp [zc11, zc21, zc32]; done)) | fail
                · first | (simp only [nI_s]; first | (rw [mwA_1 zc32]; done) | (rw [mwA_2 zc32 zc44]; done) | (rw [mwA_2 zc32 (Decidable.not_not.mp zc44)]; done) | (rw [mwA_3 zc32 zc44]; done)) | fail
                · first | (omega) | fail
        refine J.lsub (ls' := [(0, .ref (G.1 111)), (1, .int m), (2, .int ((mwW σ m i).1)), (3, .int ((mwW σ m i).2)), (4, .int (nI (i + 1))), (5, .int 0)]) [1, 2, 3, 4, 5, 0] rfl ?_
        refine J.to ?_ ?_ (hl17 _ 0 (Nat.zero_le _) rfl)
        · first | (first | rfl | (simp [zc11]; done)) | fail
        · first | (rfl) | fail
  refine J.lsub (ls' := [(0, .ref (G.1 111)), (1, .int m), (2, .int 0), (3, .int 0), (4, .int 1)]) [3, 4, 2, 1, 0] rfl ?_
  refine J.to ?_ ?_ (hl7 _ 0 (Nat.zero_le _) rfl)
  · first | (first | rfl | (simp []; done)) | fail
  · first | (rfl) | fail

set_option maxRecDepth 20000 in
set_option maxHeartbeats 4000000 in
theorem c_Mo_isMade {l : Launch} {G : Gz} (hG : zI G) (σ : St) (row : Int32) (n : Nat) (hw : mW σ) (hn : n < 9) : MI l G y_Mo_isMade prog_14_method_82_code 7 .boolean 2 [.ref (G.1 111), .int row, .int (nI n)] σ (b2 (¬ mkN σ row n)) σ := by
  refine MI.of hG (by decide) (Nat.le_of_ble_eq_true rfl) (fun X hx hq => ?_)
  show J l G X 7 σ 0 [(0, .ref (G.1 111)), (1, .int row), (2, .int (nI n))] []
  have hb1 : ct (σ 115 1) ≤ 6 := hw.1.2.1
  have hb2 : ct (σ 115 2) ≤ 3 := hw.1.2.2.1
  have hb0 : ct (σ 115 0) ≤ 12 := hw.1.1
  have hb3 : ct (σ 115 3) ≤ 6 := hw.1.2.2.2.1
  have hb4 : ct (σ 115 4) ≤ 6 := hw.1.2.2.2.2
  refine j_iconst (v := 0) hx d_Mo_isMade_0 (by decide) ?_
  refine j_istore_n hx [(3, .int 0), (0, .ref (G.1 111)), (1, .int row), (2, .int (nI n))] d_Mo_isMade_1 rfl (by decide) rfl ?_
  have hl2 : ∀ (N9 : Nat) (i : Nat), (i ≤ ct (σ 115 2)) → (∀ d, d < i → mkD σ row n d) → (ct (σ 115 2)) - i = N9 → J l G X 7 σ 2 [(0, .ref (G.1 111)), (1, .int row), (2, .int (nI n)), (3, .int (nI i))] [] := by
    intro N9
    induction N9 using Nat.strongRecOn with
    | _ N9 ih2 =>
      intro i hi_i hb hm2
      refine j_iload_n hx d_Mo_isMade_2 rfl 3 rfl ?_
      refine j_aload_n hx d_Mo_isMade_3 rfl 0 rfl ?_
      refine j_get hx ck_Mo 12 (by decide) t_1430 (by decide) (sh_111 _ _) rfl d_Mo_isMade_4 ?_
      refine j_iconst (v := 2) hx d_Mo_isMade_7 (by decide) ?_
      have hz8_1 : zin (2) 6 2 := by first | exact ⟨rfl, by decide⟩ | exact zin_nI (by omega) (by decide) | exact zin_of (by omega) (by omega)
      refine j_ialdk hx ia_115 hz8_1 d_Mo_isMade_8 ?_
      refine j_icmp_ge (tgt := 102) hx d_Mo_isMade_9 (by decide) (fun zc9 => ?_) (fun zc9 => ?_)
      · skip
        obtain rfl := ct_end' hi_i zc9
        refine j_iconst (v := 0) hx d_Mo_isMade_102 (by decide) ?_
        exact j_iret hx hq rfl d_Mo_isMade_103 (by first | (first | exact (b2_f (p := ¬ mkN σ row n) (fun z => z hb)).symm | exact (b2_t (p := ¬ mkN σ row n) (fun z => z i hlt2 j hlt15 (b2_nz zc85))).symm) | fail) (by first | (first | rfl | (simp only [zc9]; done) | (simp [zc9]; done)) | fail)
      · skip
        have hlt2 := ct_go hi_i zc9
        refine j_iconst (v := 0) hx d_Mo_isMade_12 (by decide) ?_
        refine j_istore hx [(4, .int 0), (0, .ref (G.1 111)), (1, .int row), (2, .int (nI n)), (3, .int (nI i))] d_Mo_isMade_13 (by decide) rfl ?_
        have hl15 : ∀ (N9 : Nat) (j : Nat), (j ≤ ct (σ (152 + i) 1)) → (∀ a, a < j → ¬ mkA row (nI a) (σ (152 + i) 1) n) → (ct (σ (152 + i) 1)) - j = N9 → J l G X 7 σ 15 [(0, .ref (G.1 111)), (1, .int row), (2, .int (nI n)), (3, .int (nI i)), (4, .int (nI j))] [] := by
          intro N9
          induction N9 using Nat.strongRecOn with
          | _ N9 ih15 =>
            intro j hi_j hb2 hm15
            refine j_iload hx d_Mo_isMade_15 4 rfl ?_
            refine j_aload_n hx d_Mo_isMade_17 rfl 0 rfl ?_
            refine j_get hx ck_Mo 20 (by decide) t_1438 (by decide) (sh_111 _ _) rfl d_Mo_isMade_18 ?_
            refine j_iload_n hx d_Mo_isMade_21 rfl 3 rfl ?_
            have hz22_2 : zin (nI i) 3 i := by first | exact ⟨rfl, by decide⟩ | exact zin_nI (by omega) (by decide) | exact zin_of (by omega) (by omega)
            refine j_aaldk hx ias_donkey.1.1 (ias_donkey.2.1 _ _) hz22_2 d_Mo_isMade_22 ?_
            refine j_iconst (v := 1) hx d_Mo_isMade_23 (by decide) ?_
            have hz24_3 : zin (1) 2 1 := by first | exact ⟨rfl, by decide⟩ | exact zin_nI (by omega) (by decide) | exact zin_of (by omega) (by omega)
            refine j_ialdk hx (ias_donkey.2.2 _ hz22_2.2) hz24_3 d_Mo_isMade_24 ?_
            refine j_icmp_ge (tgt := 96) hx d_Mo_isMade_25 (by decide) (fun zc25 => ?_) (fun zc25 => ?_)
            · skip
              obtain rfl := ct_end' hi_j zc25
              refine j_iinc hx [(3, .int ((nI i) + 1)), (0, .ref (G.1 111)), (1, .int row), (2, .int (nI n)), (4, .int (nI (ct (σ (152 + i) 1))))] d_Mo_isMade_96 3 rfl rfl (by decide) rfl ?_
              refine j_goto (tgt := 2) hx d_Mo_isMade_99 (by decide) ?_
              refine J.lsub (ls' := [(0, .ref (G.1 111)), (1, .int row), (2, .int (nI n)), (3, .int ((nI i) + 1))]) [1, 2, 3, 0] rfl ?_
              refine J.to ?_ ?_ (ih2 _ ?_ (i + 1) hlt2 (all_s hb hb2) rfl)
              · first | (first | rfl | (simp [zc9, zc25]; done)) | fail
              · first | (simp only [nI_s]) | fail
              · first | (omega) | fail
            · skip
              have hlt15 := ct_go hi_j zc25
              refine j_iconst (v := 1) hx d_Mo_isMade_28 (by decide) ?_
              refine j_istore hx [(5, .int 1), (0, .ref (G.1 111)), (1, .int row), (2, .int (nI n)), (3, .int (nI i)), (4, .int (nI j))] d_Mo_isMade_29 (by decide) rfl ?_
              refine j_iconst (v := 0) hx d_Mo_isMade_31 (by decide) ?_
              refine j_istore hx [(6, .int 0), (5, .int 1), (0, .ref (G.1 111)), (1, .int row), (2, .int (nI n)), (3, .int (nI i)), (4, .int (nI j))] d_Mo_isMade_32 (by decide) rfl ?_
              have hl34 : ∀ (N9 : Nat) (q : Nat), (q ≤ n) → n - q = N9 → J l G X 7 σ 34 [(0, .ref (G.1 111)), (1, .int row), (2, .int (nI n)), (3, .int (nI i)), (4, .int (nI j)), (5, .int (b2 (mkA row (nI j) (σ (152 + i) 1) q))), (6, .int (nI q))] [] := by
                intro N9
                induction N9 using Nat.strongRecOn with
                | _ N9 ih34 =>
                  intro q hi_q hm34
                  refine j_iload hx d_Mo_isMade_34 6 rfl ?_
                  refine j_iload_n hx d_Mo_isMade_36 rfl 2 rfl ?_
                  refine j_icmp_ge (tgt := 83) hx d_Mo_isMade_37 (by decide) (fun zc37 => ?_) (fun zc37 => ?_)
                  · skip
                    obtain rfl := nt_end (n := n) hi_q (by omega) zc37
                    refine j_iload hx d_Mo_isMade_83 5 rfl ?_
                    refine j_if_eq (tgt := 90) hx d_Mo_isMade_85 (by decide) (fun zc85 => ?_) (fun zc85 => ?_)
                    · skip
                      refine j_iinc hx [(4, .int ((nI j) + 1)), (0, .ref (G.1 111)), (1, .int row), (2, .int (nI n)), (3, .int (nI i)), (5, .int (b2 (mkA row (nI j) (σ (152 + i) 1) n))), (6, .int (nI n))] d_Mo_isMade_90 4 rfl rfl (by decide) rfl ?_
                      refine j_goto (tgt := 15) hx d_Mo_isMade_93 (by decide) ?_
                      refine J.lsub (ls' := [(0, .ref (G.1 111)), (1, .int row), (2, .int (nI n)), (3, .int (nI i)), (4, .int ((nI j) + 1))]) [1, 2, 3, 4, 0] rfl ?_
                      refine J.to ?_ ?_ (ih15 _ ?_ (j + 1) hlt15 (all_s hb2 (b2_z zc85)) rfl)
                      · first | (first | rfl | (simp [zc9, zc25, zc37, zc85]; done)) | fail
                      · first | (simp only [nI_s]) | fail
                      · first | (omega) | fail
                    · skip
                      refine j_iconst (v := 1) hx d_Mo_isMade_88 (by decide) ?_
                      exact j_iret hx hq rfl d_Mo_isMade_89 (by first | (first | exact (b2_f (p := ¬ mkN σ row n) (fun z => z hb)).symm | exact (b2_t (p := ¬ mkN σ row n) (fun z => z i hlt2 j hlt15 (b2_nz zc85))).symm) | fail) (by first | (first | rfl | (simp only [zc9, zc25, zc37, zc85]; done) | (simp [zc9, zc25, zc37, zc85]; done)) | fail)
                  · skip
                    have hlt34 := nt_go (n := n) hi_q (by omega) zc37
                    refine j_iload hx d_Mo_isMade_40 5 rfl ?_
                    refine j_if_eq (tgt := 74) hx d_Mo_isMade_42 (by decide) (fun zc42 => ?_) (fun zc42 => ?_)
                    · skip
                      refine j_iconst (v := 0) hx d_Mo_isMade_74 (by decide) ?_
                      refine j_istore hx [(5, .int 0), (0, .ref (G.1 111)), (1, .int row), (2, .int (nI n)), (3, .int (nI i)), (4, .int (nI j)), (6, .int (nI q))] d_Mo_isMade_75 (by decide) rfl ?_
                      refine j_iinc hx [(6, .int ((nI q) + 1)), (5, .int 0), (0, .ref (G.1 111)), (1, .int row), (2, .int (nI n)), (3, .int (nI i)), (4, .int (nI j))] d_Mo_isMade_77 6 rfl rfl (by decide) rfl ?_
                      refine j_goto (tgt := 34) hx d_Mo_isMade_80 (by decide) ?_
                      refine J.lsub (ls' := [(0, .ref (G.1 111)), (1, .int row), (2, .int (nI n)), (3, .int (nI i)), (4, .int (nI j)), (5, .int 0), (6, .int ((nI q) + 1))]) [2, 3, 4, 5, 6, 1, 0] rfl ?_
                      refine J.to ?_ ?_ (ih34 _ ?_ (q + 1) hlt34 rfl)
                      · first | (first | rfl | (simp [zc9, zc25, zc37, zc42]; done)) | fail
                      · first | (simp only [nI_s]; first | (rw [all_b zc42]; done) | (rw [all_t (P := mkP row (nI j) (σ (152 + i) 1)) zc42 (by rw [b2_eqb] at zc67; exact zc67)]; done) | (rw [all_t (P := mkP row (nI j) (σ (152 + i) 1)) zc42 (by rw [b2_eqb, Decidable.not_not] at zc67; exact zc67)]; done) | (rw [all_f (P := mkP row (nI j) (σ (152 + i) 1)) (by rw [b2_eqb] at zc67; exact zc67)]; done)) | fail
                      · first | (omega) | fail
                    · skip
                      refine j_iload_n hx d_Mo_isMade_45 rfl 1 rfl ?_
                      refine j_iload hx d_Mo_isMade_46 6 rfl ?_
                      refine j_callSi hx (c_Mo_has hG σ row (nI q)) mo_Mo_has t_1721 t_1720 (by decide) rfl rfl (Nat.le_of_ble_eq_true rfl) d_Mo_isMade_48 ?_
                      refine j_iload hx d_Mo_isMade_51 4 rfl ?_
                      refine j_iload hx d_Mo_isMade_53 6 rfl ?_
                      refine j_iadd hx d_Mo_isMade_55 ?_
                      refine j_aload_n hx d_Mo_isMade_56 rfl 0 rfl ?_
                      refine j_get hx ck_Mo 20 (by decide) t_1438 (by decide) (sh_111 _ _) rfl d_Mo_isMade_57 ?_
                      refine j_iload_n hx d_Mo_isMade_60 rfl 3 rfl ?_
                      have hz61_4 : zin (nI i) 3 i := by first | exact ⟨rfl, by decide⟩ | exact zin_nI (by omega) (by decide) | exact zin_of (by omega) (by omega)
                      refine j_aaldk hx ias_donkey.1.1 (ias_donkey.2.1 _ _) hz61_4 d_Mo_isMade_61 ?_
                      refine j_iconst (v := 1) hx d_Mo_isMade_62 (by decide) ?_
                      have hz63_5 : zin (1) 2 1 := by first | exact ⟨rfl, by decide⟩ | exact zin_nI (by omega) (by decide) | exact zin_of (by omega) (by omega)
                      refine j_ialdk hx (ias_donkey.2.2 _ hz61_4.2) hz63_5 d_Mo_isMade_63 ?_
                      refine j_callSi hx (c_Mo_isFlash hG σ ((nI j) + (nI q)) (σ (152 + i) 1) (by exact hw.2.2.1 _ hlt2)) mo_Mo_isFlash t_1743 t_1742 (by decide) rfl rfl (Nat.le_of_ble_eq_true rfl) d_Mo_isMade_64 ?_
                      refine j_icmp_ne (tgt := 74) hx d_Mo_isMade_67 (by decide) (fun zc67 => ?_) (fun zc67 => ?_)
                      · skip
                        refine j_iconst (v := 0) hx d_Mo_isMade_74 (by decide) ?_
                        refine j_istore hx [(5, .int 0), (0, .ref (G.1 111)), (1, .int row), (2, .int (nI n)), (3, .int (nI i)), (4, .int (nI j)), (6, .int (nI q))] d_Mo_isMade_75 (by decide) rfl ?_
                        refine j_iinc hx [(6, .int ((nI q) + 1)), (5, .int 0), (0, .ref (G.1 111)), (1, .int row), (2, .int (nI n)), (3, .int (nI i)), (4, .int (nI j))] d_Mo_isMade_77 6 rfl rfl (by decide) rfl ?_
                        refine j_goto (tgt := 34) hx d_Mo_isMade_80 (by decide) ?_
                        refine J.lsub (ls' := [(0, .ref (G.1 111)), (1, .int row), (2, .int (nI n)), (3, .int (nI i)), (4, .int (nI j)), (5, .int 0), (6, .int ((nI q) + 1))]) [2, 3, 4, 5, 6, 1, 0] rfl ?_
                        refine J.to ?_ ?_ (ih34 _ ?_ (q + 1) hlt34 rfl)
                        · first | (first | rfl | (simp [zc9, zc25, zc37, zc42, zc67]; done)) | fail
                        · first | (simp only [nI_s]; first | (rw [all_b zc42]; done) | (rw [all_t (P := mkP row (nI j) (σ (152 + i) 1)) zc42 (by rw [b2_eqb] at zc67; exact zc67)]; done) | (rw [all_t (P := mkP row (nI j) (σ (152 + i) 1)) zc42 (by rw [b2_eqb, Decidable.not_not] at zc67; exact zc67)]; done) | (rw [all_f (P := mkP row (nI j) (σ (152 + i) 1)) (by rw [b2_eqb] at zc67; exact zc67)]; done)) | fail
                        · first | (omega) | fail
                      · skip
                        refine j_iconst (v := 1) hx d_Mo_isMade_70 (by decide) ?_
                        refine j_goto (tgt := 75) hx d_Mo_isMade_71 (by decide) ?_
                        refine j_istore hx [(5, .int 1), (0, .ref (G.1 111)), (1, .int row), (2, .int (nI n)), (3, .int (nI i)), (4, .int (nI j)), (6, .int (nI q))] d_Mo_isMade_75 (by decide) rfl ?_
                        refine j_iinc hx [(6, .int ((nI q) + 1)), (5, .int 1), (0, .ref (G.1 111)), (1, .int row), (2, .int (nI n)), (3, .int (nI i)), (4, .int (nI j))] d_Mo_isMade_77 6 rfl rfl (by decide) rfl ?_
                        refine j_goto (tgt := 34) hx d_Mo_isMade_80 (by decide) ?_
                        refine J.lsub (ls' := [(0, .ref (G.1 111)), (1, .int row), (2, .int (nI n)), (3, .int (nI i)), (4, .int (nI j)), (5, .int 1), (6, .int ((nI q) + 1))]) [2, 3, 4, 5, 6, 1, 0] rfl ?_
                        refine J.to ?_ ?_ (ih34 _ ?_ (q + 1) hlt34 rfl)
                        · first | (first | rfl | (simp [zc9, zc25, zc37, zc42, zc67]; done)) | fail
                        · first | (simp only [nI_s]; first | (rw [all_b zc42]; done) | (rw [all_t (P := mkP row (nI j) (σ (152 + i) 1)) zc42 (by rw [b2_eqb] at zc67; exact zc67)]; done) | (rw [all_t (P := mkP row (nI j) (σ (152 + i) 1)) zc42 (by rw [b2_eqb, Decidable.not_not] at zc67; exact zc67)]; done) | (rw [all_f (P := mkP row (nI j) (σ (152 + i) 1)) (by rw [b2_eqb] at zc67; exact zc67)]; done)) | fail
                        · first | (omega) | fail
              refine J.lsub (ls' := [(0, .ref (G.1 111)), (1, .int row), (2, .int (nI n)), (3, .int (nI i)), (4, .int (nI j)), (5, .int 1), (6, .int 0)]) [2, 3, 4, 5, 6, 1, 0] rfl ?_
              refine J.to ?_ ?_ (hl34 _ 0 (Nat.zero_le _) rfl)
              · first | (first | rfl | (simp [zc9, zc25]; done)) | fail
              · first | (rw [b2_t (p := mkA row (nI j) (σ (152 + i) 1) 0) (fun c h => absurd h (Nat.not_lt_zero c))]; rfl) | fail
        refine J.lsub (ls' := [(0, .ref (G.1 111)), (1, .int row), (2, .int (nI n)), (3, .int (nI i)), (4, .int 0)]) [1, 2, 3, 4, 0] rfl ?_
        refine J.to ?_ ?_ (hl15 _ 0 (Nat.zero_le _) (fun c h => absurd h (Nat.not_lt_zero c)) rfl)
        · first | (first | rfl | (simp [zc9]; done)) | fail
        · first | (first | rfl | (simp only [nI_s]; done) | (simp only [nI_s, it_s]; done) | (simp [nI_s, it_s, zc9]; done)) | fail
  refine J.lsub (ls' := [(0, .ref (G.1 111)), (1, .int row), (2, .int (nI n)), (3, .int 0)]) [1, 2, 3, 0] rfl ?_
  refine J.to ?_ ?_ (hl2 _ 0 (Nat.zero_le _) (fun c h => absurd h (Nat.not_lt_zero c)) rfl)
  · first | (first | rfl | (simp []; done)) | fail
  · first | (first | rfl | (simp only [nI_s]; done) | (simp only [nI_s, it_s]; done) | (simp [nI_s, it_s, ]; done)) | fail

set_option maxRecDepth 20000 in
set_option maxHeartbeats 4000000 in
theorem c_Mo_codesOf {l : Launch} {G : Gz} (hG : zI G) (σ : St) (n : Nat) (what : Int32) (hw : mW σ) (hn : n < 9) : MI l G y_Mo_codesOf prog_14_method_83_code 6 .int 3 [.ref (G.1 111), .int (nI n), .int what] σ (if what = 0 then (mco σ n (ct (1 <<< (nI n &&& 31)))).1 else (mco σ n (ct (1 <<< (nI n &&& 31)))).2) σ := by
  refine MI.of hG (by decide) (Nat.le_of_ble_eq_true rfl) (fun X hx hq => ?_)
  show J l G X 6 σ 0 [(0, .ref (G.1 111)), (1, .int (nI n)), (2, .int what)] []
  refine j_iconst (v := 0) hx d_Mo_codesOf_0 (by decide) ?_
  refine j_istore_n hx [(3, .int 0), (0, .ref (G.1 111)), (1, .int (nI n)), (2, .int what)] d_Mo_codesOf_1 rfl (by decide) rfl ?_
  refine j_iconst (v := (-1)) hx d_Mo_codesOf_2 (by decide) ?_
  refine j_istore hx [(4, .int ((-1))), (3, .int 0), (0, .ref (G.1 111)), (1, .int (nI n)), (2, .int what)] d_Mo_codesOf_3 (by decide) rfl ?_
  refine j_iconst (v := 0) hx d_Mo_codesOf_5 (by decide) ?_
  refine j_istore hx [(5, .int 0), (4, .int ((-1))), (3, .int 0), (0, .ref (G.1 111)), (1, .int (nI n)), (2, .int what)] d_Mo_codesOf_6 (by decide) rfl ?_
  have hl8 : ∀ (N9 : Nat) (i : Nat), (i ≤ (ct (1 <<< (nI n &&& 31)))) → (ct (1 <<< (nI n &&& 31))) - i = N9 → J l G X 6 σ 8 [(0, .ref (G.1 111)), (1, .int (nI n)), (2, .int what), (3, .int ((mco σ n i).1)), (4, .int ((mco σ n i).2)), (5, .int (nI i))] [] := by
    intro N9
    induction N9 using Nat.strongRecOn with
    | _ N9 ih8 =>
      intro i hi_i hm8
      refine j_iload hx d_Mo_codesOf_8 5 rfl ?_
      refine j_iconst (v := 1) hx d_Mo_codesOf_10 (by decide) ?_
      refine j_iload_n hx d_Mo_codesOf_11 rfl 1 rfl ?_
      refine j_ishl hx d_Mo_codesOf_12 ?_
      refine j_icmp_ge (tgt := 51) hx d_Mo_codesOf_13 (by decide) (fun zc13 => ?_) (fun zc13 => ?_)
      · skip
        obtain rfl := ct_end' hi_i zc13
        refine j_iload_n hx d_Mo_codesOf_51 rfl 2 rfl ?_
        refine j_if_ne (tgt := 59) hx d_Mo_codesOf_52 (by decide) (fun zc52 => ?_) (fun zc52 => ?_)
        · skip
          refine j_iload hx d_Mo_codesOf_59 4 rfl ?_
          exact j_iret hx hq rfl d_Mo_codesOf_61 (by first | (first | exact (if_pos zc52).symm | exact (if_neg zc52).symm) | fail) (by first | (first | rfl | (simp only [zc13, zc52]; done) | (simp [zc13, zc52]; done)) | fail)
        · skip
          refine j_iload_n hx d_Mo_codesOf_55 rfl 3 rfl ?_
          refine j_goto (tgt := 61) hx d_Mo_codesOf_56 (by decide) ?_
          exact j_iret hx hq rfl d_Mo_codesOf_61 (by first | (first | exact (if_pos zc52).symm | exact (if_neg zc52).symm) | fail) (by first | (first | rfl | (simp only [zc13, zc52]; done) | (simp [zc13, zc52]; done)) | fail)
      · skip
        have hlt8 := ct_go hi_i zc13
        refine j_aload_n hx d_Mo_codesOf_16 rfl 0 rfl ?_
        refine j_iload hx d_Mo_codesOf_17 5 rfl ?_
        refine j_iload_n hx d_Mo_codesOf_19 rfl 1 rfl ?_
        refine j_callVi hx (c_Mo_isMade hG σ (nI i) n (by exact hw) (by exact hn)) mo_Mo_isMade mv_Mo_isMade t_1872 (by decide) rfl (by decide) (sh_111 _ _) rfl rfl (Nat.le_of_ble_eq_true rfl) d_Mo_codesOf_20 ?_
        refine j_if_eq (tgt := 29) hx d_Mo_codesOf_23 (by decide) (fun zc23 => ?_) (fun zc23 => ?_)
        · skip
          refine j_iload_n hx d_Mo_codesOf_29 rfl 3 rfl ?_
          refine j_if_ne (tgt := 38) hx d_Mo_codesOf_30 (by decide) (fun zc30 => ?_) (fun zc30 => ?_)
          · skip
            refine j_iload hx d_Mo_codesOf_38 4 rfl ?_
            refine j_istore hx [(4, .int ((mco σ n i).2)), (0, .ref (G.1 111)), (1, .int (nI n)), (2, .int what), (3, .int ((mco σ n i).1)), (5, .int (nI i))] d_Mo_codesOf_40 (by decide) rfl ?_
            refine j_iinc hx [(3, .int (((mco σ n i).1) + 1)), (4, .int ((mco σ n i).2)), (0, .ref (G.1 111)), (1, .int (nI n)), (2, .int what), (5, .int (nI i))] d_Mo_codesOf_42 4 rfl rfl (by decide) rfl ?_
            refine j_iinc hx [(5, .int ((nI i) + 1)), (3, .int (((mco σ n i).1) + 1)), (4, .int ((mco σ n i).2)), (0, .ref (G.1 111)), (1, .int (nI n)), (2, .int what)] d_Mo_codesOf_45 5 rfl rfl (by decide) rfl ?_
            refine j_goto (tgt := 8) hx d_Mo_codesOf_48 (by decide) ?_
            refine J.lsub (ls' := [(0, .ref (G.1 111)), (1, .int (nI n)), (2, .int what), (3, .int (((mco σ n i).1) + 1)), (4, .int ((mco σ n i).2)), (5, .int ((nI i) + 1))]) [3, 4, 5, 1, 2, 0] rfl ?_
            refine J.to ?_ ?_ (ih8 _ ?_ (i + 1) hlt8 rfl)
            · first | (first | rfl | (simp [zc13, zc23, zc30]; done)) | fail
            · first | (simp only [nI_s]; first | (rw [mco_1 zc23]; done) | (rw [mco_2 zc23 zc30]; done) | (rw [mco_3 zc23 zc30]; done)) | fail
            · first | (omega) | fail
          · skip
            refine j_iload hx d_Mo_codesOf_33 5 rfl ?_
            refine j_goto (tgt := 40) hx d_Mo_codesOf_35 (by decide) ?_
            refine j_istore hx [(4, .int (nI i)), (0, .ref (G.1 111)), (1, .int (nI n)), (2, .int what), (3, .int ((mco σ n i).1)), (5, .int (nI i))] d_Mo_codesOf_40 (by decide) rfl ?_
            refine j_iinc hx [(3, .int (((mco σ n i).1) + 1)), (4, .int (nI i)), (0, .ref (G.1 111)), (1, .int (nI n)), (2, .int what), (5, .int (nI i))] d_Mo_codesOf_42 4 rfl rfl (by decide) rfl ?_
            refine j_iinc hx [(5, .int ((nI i) + 1)), (3, .int (((mco σ n i).1) + 1)), (4, .int (nI i)), (0, .ref (G.1 111)), (1, .int (nI n)), (2, .int what)] d_Mo_codesOf_45 5 rfl rfl (by decide) rfl ?_
            refine j_goto (tgt := 8) hx d_Mo_codesOf_48 (by decide) ?_
            refine J.lsub (ls' := [(0, .ref (G.1 111)), (1, .int (nI n)), (2, .int what), (3, .int (((mco σ n i).1) + 1)), (4, .int (nI i)), (5, .int ((nI i) + 1))]) [3, 4, 5, 1, 2, 0] rfl ?_
            refine J.to ?_ ?_ (ih8 _ ?_ (i + 1) hlt8 rfl)
            · first | (first | rfl | (simp [zc13, zc23, zc30]; done)) | fail
            · first | (simp only [nI_s]; first | (rw [mco_1 zc23]; done) | (rw [mco_2 zc23 zc30]; done) | (rw [mco_3 zc23 zc30]; done)) | fail
            · first | (omega) | fail
        · skip
          refine j_goto (tgt := 45) hx d_Mo_codesOf_26 (by decide) ?_
          refine j_iinc hx [(5, .int ((nI i) + 1)), (0, .ref (G.1 111)), (1, .int (nI n)), (2, .int what), (3, .int ((mco σ n i).1)), (4, .int ((mco σ n i).2))] d_Mo_codesOf_45 5 rfl rfl (by decide) rfl ?_
          refine j_goto (tgt := 8) hx d_Mo_codesOf_48 (by decide) ?_
          refine J.lsub (ls' := [(0, .ref (G.1 111)), (1, .int (nI n)), (2, .int what), (3, .int ((mco σ n i).1)), (4, .int ((mco σ n i).2)), (5, .int ((nI i) + 1))]) [1, 2, 3, 4, 5, 0] rfl ?_
          refine J.to ?_ ?_ (ih8 _ ?_ (i + 1) hlt8 rfl)
          · first | (first | rfl | (simp [zc13, zc23]; done)) | fail
          · first | (simp only [nI_s]; first | (rw [mco_1 zc23]; done) | (rw [mco_2 zc23 zc30]; done) | (rw [mco_3 zc23 zc30]; done)) | fail
          · first | (omega) | fail
  refine J.lsub (ls' := [(0, .ref (G.1 111)), (1, .int (nI n)), (2, .int what), (3, .int 0), (4, .int ((-1))), (5, .int 0)]) [3, 4, 5, 2, 1, 0] rfl ?_
  refine J.to ?_ ?_ (hl8 _ 0 (Nat.zero_le _) rfl)
  · first | (first | rfl | (simp []; done)) | fail
  · first | (rfl) | fail

set_option maxRecDepth 20000 in
set_option maxHeartbeats 4000000 in
theorem c_Mo_lostBy {l : Launch} {G : Gz} (hG : zI G) (σ : St) (odds : Int32) (l9 : Nat) (n : Nat) (h1 : l9 < 100) (h2 : n < 100) : ML l G y_Mo_lostBy prog_14_method_86_code 6 .long 1 [.int odds, .int (nI l9), .int (nI n)] σ (mlb odds l9 n) σ := by
  refine ML.of hG (by decide) (Nat.le_of_ble_eq_true rfl) (fun X hx hq => ?_)
  show J l G X 6 σ 0 [(0, .int odds), (1, .int (nI l9)), (2, .int (nI n))] []
  refine j_lconst (v := 1) hx d_Mo_lostBy_0 (by decide) ?_
  refine j_lstore_n hx [(3, .long ((1 : Int64))), (0, .int odds), (1, .int (nI l9)), (2, .int (nI n))] d_Mo_lostBy_1 rfl (by decide) rfl ?_
  refine j_iconst (v := 0) hx d_Mo_lostBy_2 (by decide) ?_
  refine j_istore hx [(5, .int 0), (3, .long ((1 : Int64))), (0, .int odds), (1, .int (nI l9)), (2, .int (nI n))] d_Mo_lostBy_3 (by decide) rfl ?_
  have hl5 : ∀ (N9 : Nat) (i : Nat), (i ≤ n) → n - i = N9 → J l G X 6 σ 5 [(0, .int odds), (1, .int (nI l9)), (2, .int (nI n)), (3, .long (mlb odds l9 i)), (5, .int (nI i))] [] := by
    intro N9
    induction N9 using Nat.strongRecOn with
    | _ N9 ih5 =>
      intro i hi_i hm5
      refine j_iload hx d_Mo_lostBy_5 4 rfl ?_
      refine j_iload_n hx d_Mo_lostBy_7 rfl 2 rfl ?_
      refine j_icmp_ge (tgt := 36) hx d_Mo_lostBy_8 (by decide) (fun zc8 => ?_) (fun zc8 => ?_)
      · skip
        obtain rfl := nt_end (n := n) hi_i (by omega) zc8
        refine j_lload_n hx d_Mo_lostBy_36 rfl 3 rfl ?_
        exact j_lret hx hq d_Mo_lostBy_37 (by first | (first | rfl | (simp only [zc8]; done) | (simp [zc8]; done)) | fail) (by first | (first | rfl | (simp only [zc8]; done) | (simp [zc8]; done)) | fail)
      · skip
        have hlt5 := nt_go (n := n) hi_i (by omega) zc8
        refine j_lload_n hx d_Mo_lostBy_11 rfl 3 rfl ?_
        refine j_iload hx d_Mo_lostBy_12 4 rfl ?_
        refine j_iload_n hx d_Mo_lostBy_14 rfl 1 rfl ?_
        refine j_icmp_ge (tgt := 23) hx d_Mo_lostBy_15 (by decide) (fun zc15 => ?_) (fun zc15 => ?_)
        · skip
          refine j_bipush (v := 16) hx d_Mo_lostBy_23 (by decide) ?_
          refine j_iload_n hx d_Mo_lostBy_25 rfl 0 rfl ?_
          refine j_isub hx d_Mo_lostBy_26 ?_
          refine j_i2l hx d_Mo_lostBy_27 rfl ?_
          refine j_lmul hx d_Mo_lostBy_28 ?_
          refine j_lstore_n hx [(3, .long ((mlb odds l9 i) * ((16 - odds).toInt64))), (0, .int odds), (1, .int (nI l9)), (2, .int (nI n)), (5, .int (nI i))] d_Mo_lostBy_29 rfl (by decide) rfl ?_
          refine j_iinc hx [(5, .int ((nI i) + 1)), (3, .long ((mlb odds l9 i) * ((16 - odds).toInt64))), (0, .int odds), (1, .int (nI l9)), (2, .int (nI n))] d_Mo_lostBy_30 4 rfl rfl (by decide) rfl ?_
          refine j_goto (tgt := 5) hx d_Mo_lostBy_33 (by decide) ?_
          refine J.lsub (ls' := [(0, .int odds), (1, .int (nI l9)), (2, .int (nI n)), (3, .long ((mlb odds l9 i) * ((16 - odds).toInt64))), (5, .int ((nI i) + 1))]) [2, 3, 4, 1, 0] rfl ?_
          refine J.to ?_ ?_ (ih5 _ ?_ (i + 1) hlt5 rfl)
          · first | (first | rfl | (simp [zc8, zc15]; done)) | fail
          · first | (rw [znI_le (by omega) (by omega)] at zc15; simp only [nI_s]; first | (rw [mlb_1 (by omega)]; done) | (rw [mlb_2 (by omega)]; done)) | fail
          · first | (omega) | fail
        · skip
          refine j_iload_n hx d_Mo_lostBy_18 rfl 0 rfl ?_
          refine j_i2l hx d_Mo_lostBy_19 rfl ?_
          refine j_goto (tgt := 28) hx d_Mo_lostBy_20 (by decide) ?_
          refine j_lmul hx d_Mo_lostBy_28 ?_
          refine j_lstore_n hx [(3, .long ((mlb odds l9 i) * odds.toInt64)), (0, .int odds), (1, .int (nI l9)), (2, .int (nI n)), (5, .int (nI i))] d_Mo_lostBy_29 rfl (by decide) rfl ?_
          refine j_iinc hx [(5, .int ((nI i) + 1)), (3, .long ((mlb odds l9 i) * odds.toInt64)), (0, .int odds), (1, .int (nI l9)), (2, .int (nI n))] d_Mo_lostBy_30 4 rfl rfl (by decide) rfl ?_
          refine j_goto (tgt := 5) hx d_Mo_lostBy_33 (by decide) ?_
          refine J.lsub (ls' := [(0, .int odds), (1, .int (nI l9)), (2, .int (nI n)), (3, .long ((mlb odds l9 i) * odds.toInt64)), (5, .int ((nI i) + 1))]) [2, 3, 4, 1, 0] rfl ?_
          refine J.to ?_ ?_ (ih5 _ ?_ (i + 1) hlt5 rfl)
          · first | (first | rfl | (simp [zc8, zc15]; done)) | fail
          · first | (rw [znI_le (by omega) (by omega)] at zc15; simp only [nI_s]; first | (rw [mlb_1 (by omega)]; done) | (rw [mlb_2 (by omega)]; done)) | fail
          · first | (omega) | fail
  refine J.lsub (ls' := [(0, .int odds), (1, .int (nI l9)), (2, .int (nI n)), (3, .long ((1 : Int64))), (5, .int 0)]) [2, 3, 4, 1, 0] rfl ?_
  refine J.to ?_ ?_ (hl5 _ 0 (Nat.zero_le _) rfl)
  · first | (first | rfl | (simp []; done)) | fail
  · first | (rfl) | fail

set_option maxRecDepth 20000 in
set_option maxHeartbeats 4000000 in
theorem c_Mo_carry {l : Launch} {G : Gz} (hG : zI G) (σ : St) (c : Nat) (h : Int32) (hc : c < 12) : MI l G y_Mo_carry prog_14_method_88_code 3 .int 2 [.ref (G.1 111), .int (nI c), .int h] σ (mca σ c h) σ := by
  refine MI.of hG (by decide) (Nat.le_of_ble_eq_true rfl) (fun X hx hq => ?_)
  show J l G X 3 σ 0 [(0, .ref (G.1 111)), (1, .int (nI c)), (2, .int h)] []
  refine j_iload_n hx d_Mo_carry_0 rfl 1 rfl ?_
  refine j_iload_n hx d_Mo_carry_1 rfl 2 rfl ?_
  refine j_callSi hx (c_Mo_away hG σ (nI c) h) mo_Mo_away t_1740 t_1739 (by decide) rfl rfl (Nat.le_of_ble_eq_true rfl) d_Mo_carry_2 ?_
  refine j_iconst (v := 2) hx d_Mo_carry_5 (by decide) ?_
  refine j_icmp_ge (tgt := 14) hx d_Mo_carry_6 (by decide) (fun zc6 => ?_) (fun zc6 => ?_)
  · skip
    refine j_aload_n hx d_Mo_carry_14 rfl 0 rfl ?_
    refine j_get hx ck_Mo 14 (by decide) t_1432 (by decide) (sh_111 _ _) rfl d_Mo_carry_15 ?_
    refine j_iload_n hx d_Mo_carry_18 rfl 1 rfl ?_
    have hz19_1 : zin (nI c) 12 c := by first | exact ⟨rfl, by decide⟩ | exact zin_nI (by omega) (by decide) | exact zin_of (by omega) (by omega)
    refine j_ialdk hx ia_117 hz19_1 d_Mo_carry_19 ?_
    exact j_iret hx hq rfl d_Mo_carry_20 (by first | (unfold mca; first | exact (if_pos (i_nle zc6)).symm | exact (if_neg (i_lelt zc6)).symm) | fail) (by first | (first | rfl | (simp only [zc6]; done) | (simp [zc6]; done)) | fail)
  · skip
    refine j_bipush (v := (-3)) hx d_Mo_carry_9 (by decide) ?_
    refine j_goto (tgt := 20) hx d_Mo_carry_11 (by decide) ?_
    exact j_iret hx hq rfl d_Mo_carry_20 (by first | (unfold mca; first | exact (if_pos (i_nle zc6)).symm | exact (if_neg (i_lelt zc6)).symm) | fail) (by first | (first | rfl | (simp only [zc6]; done) | (simp [zc6]; done)) | fail)

set_option maxRecDepth 20000 in
set_option maxHeartbeats 4000000 in
theorem c_Mo_isRest {l : Launch} {G : Gz} (hG : zI G) (σ : St) (c : Nat) (h : Nat) (hw : mW σ) (hc : c < 12) : MI l G y_Mo_isRest prog_14_method_89_code 4 .boolean 3 [.ref (G.1 111), .int (nI c), .int (nI h)] σ (b2 (mis σ c h)) σ := by
  refine MI.of hG (by decide) (Nat.le_of_ble_eq_true rfl) (fun X hx hq => ?_)
  show J l G X 4 σ 0 [(0, .ref (G.1 111)), (1, .int (nI c)), (2, .int (nI h))] []
  have hb1 : ct (σ 115 1) ≤ 6 := hw.1.2.1
  have hb2 : ct (σ 115 2) ≤ 3 := hw.1.2.2.1
  have hb0 : ct (σ 115 0) ≤ 12 := hw.1.1
  have hb3 : ct (σ 115 3) ≤ 6 := hw.1.2.2.2.1
  have hb4 : ct (σ 115 4) ≤ 6 := hw.1.2.2.2.2
  refine j_iconst (v := 0) hx d_Mo_isRest_0 (by decide) ?_
  refine j_istore_n hx [(3, .int 0), (0, .ref (G.1 111)), (1, .int (nI c)), (2, .int (nI h))] d_Mo_isRest_1 rfl (by decide) rfl ?_
  have hl2 : ∀ (N9 : Nat) (i : Nat), (i ≤ ct (σ 115 0)) → (∀ x, x < i → ¬ mrb σ c h x) → (ct (σ 115 0)) - i = N9 → J l G X 4 σ 2 [(0, .ref (G.1 111)), (1, .int (nI c)), (2, .int (nI h)), (3, .int (nI i))] [] := by
    intro N9
    induction N9 using Nat.strongRecOn with
    | _ N9 ih2 =>
      intro i hi_i hb hm2
      refine j_iload_n hx d_Mo_isRest_2 rfl 3 rfl ?_
      refine j_aload_n hx d_Mo_isRest_3 rfl 0 rfl ?_
      refine j_get hx ck_Mo 12 (by decide) t_1430 (by decide) (sh_111 _ _) rfl d_Mo_isRest_4 ?_
      refine j_iconst (v := 0) hx d_Mo_isRest_7 (by decide) ?_
      have hz8_1 : zin (0) 6 0 := by first | exact ⟨rfl, by decide⟩ | exact zin_nI (by omega) (by decide) | exact zin_of (by omega) (by omega)
      refine j_ialdk hx ia_115 hz8_1 d_Mo_isRest_8 ?_
      refine j_icmp_ge (tgt := 59) hx d_Mo_isRest_9 (by decide) (fun zc9 => ?_) (fun zc9 => ?_)
      · skip
        obtain rfl := ct_end' hi_i zc9
        refine j_iconst (v := 1) hx d_Mo_isRest_59 (by decide) ?_
        exact j_iret hx hq rfl d_Mo_isRest_60 (by first | (first | exact (b2_t (p := mis σ c h) hb).symm | exact (b2_f (p := mis σ c h) (fun z => z i hlt2 (Or.inl ⟨i_nle zc18, zc33⟩))).symm | exact (b2_f (p := mis σ c h) (fun z => z i hlt2 (Or.inr (i_nle zc48)))).symm) | fail) (by first | (first | rfl | (simp only [zc9]; done) | (simp [zc9]; done)) | fail)
      · skip
        have hlt2 := ct_go hi_i zc9
        refine j_aload_n hx d_Mo_isRest_12 rfl 0 rfl ?_
        refine j_get hx ck_Mo 14 (by decide) t_1432 (by decide) (sh_111 _ _) rfl d_Mo_isRest_13 ?_
        refine j_iload_n hx d_Mo_isRest_16 rfl 3 rfl ?_
        have hz17_2 : zin (nI i) 12 i := by first | exact ⟨rfl, by decide⟩ | exact zin_nI (by omega) (by decide) | exact zin_of (by omega) (by omega)
        refine j_ialdk hx ia_117 hz17_2 d_Mo_isRest_17 ?_
        refine j_if_le (tgt := 36) hx d_Mo_isRest_18 (by decide) (fun zc18 => ?_) (fun zc18 => ?_)
        · skip
          refine j_aload_n hx d_Mo_isRest_36 rfl 0 rfl ?_
          refine j_iload_n hx d_Mo_isRest_37 rfl 1 rfl ?_
          refine j_iload_n hx d_Mo_isRest_38 rfl 3 rfl ?_
          refine j_callVi hx (c_Mo_carry hG σ c (nI i) (by omega)) mo_Mo_carry mv_Mo_carry t_1895 (by decide) rfl (by decide) (sh_111 _ _) rfl rfl (Nat.le_of_ble_eq_true rfl) d_Mo_isRest_39 ?_
          refine j_aload_n hx d_Mo_isRest_42 rfl 0 rfl ?_
          refine j_iload_n hx d_Mo_isRest_43 rfl 1 rfl ?_
          refine j_iload_n hx d_Mo_isRest_44 rfl 2 rfl ?_
          refine j_callVi hx (c_Mo_carry hG σ c (nI h) (by omega)) mo_Mo_carry mv_Mo_carry t_1895 (by decide) rfl (by decide) (sh_111 _ _) rfl rfl (Nat.le_of_ble_eq_true rfl) d_Mo_isRest_45 ?_
          refine j_icmp_ge (tgt := 53) hx d_Mo_isRest_48 (by decide) (fun zc48 => ?_) (fun zc48 => ?_)
          · skip
            refine j_iinc hx [(3, .int ((nI i) + 1)), (0, .ref (G.1 111)), (1, .int (nI c)), (2, .int (nI h))] d_Mo_isRest_53 3 rfl rfl (by decide) rfl ?_
            refine j_goto (tgt := 2) hx d_Mo_isRest_56 (by decide) ?_
            refine J.lsub (ls' := [(0, .ref (G.1 111)), (1, .int (nI c)), (2, .int (nI h)), (3, .int ((nI i) + 1))]) [1, 2, 3, 0] rfl ?_
            refine J.to ?_ ?_ (ih2 _ ?_ (i + 1) hlt2 (all_s hb (by first | exact (fun z => z.elim (fun q => i_lelt zc18 q.1) (fun q => i_lelt zc48 q)) | exact (fun z => z.elim (fun q => zc33 q.2) (fun q => i_lelt zc48 q)) | exact (fun z => z.elim (fun q => i_lelt zc33 q.2) (fun q => i_lelt zc48 q)))) rfl)
            · first | (first | rfl | (simp [zc9, zc18, zc48]; done)) | fail
            · first | (simp only [nI_s]) | fail
            · first | (omega) | fail
          · skip
            refine j_iconst (v := 0) hx d_Mo_isRest_51 (by decide) ?_
            exact j_iret hx hq rfl d_Mo_isRest_52 (by first | (first | exact (b2_t (p := mis σ c h) hb).symm | exact (b2_f (p := mis σ c h) (fun z => z i hlt2 (Or.inl ⟨i_nle zc18, zc33⟩))).symm | exact (b2_f (p := mis σ c h) (fun z => z i hlt2 (Or.inr (i_nle zc48)))).symm) | fail) (by first | (first | rfl | (simp only [zc9, zc18, zc48]; done) | (simp [zc9, zc18, zc48]; done)) | fail)
        · skip
          refine j_aload_n hx d_Mo_isRest_21 rfl 0 rfl ?_
          refine j_iload_n hx d_Mo_isRest_22 rfl 3 rfl ?_
          refine j_iload_n hx d_Mo_isRest_23 rfl 2 rfl ?_
          refine j_callVi hx (c_Mo_carry hG σ i (nI h) (by omega)) mo_Mo_carry mv_Mo_carry t_1895 (by decide) rfl (by decide) (sh_111 _ _) rfl rfl (Nat.le_of_ble_eq_true rfl) d_Mo_isRest_24 ?_
          refine j_aload_n hx d_Mo_isRest_27 rfl 0 rfl ?_
          refine j_iload_n hx d_Mo_isRest_28 rfl 1 rfl ?_
          refine j_iload_n hx d_Mo_isRest_29 rfl 2 rfl ?_
          refine j_callVi hx (c_Mo_carry hG σ c (nI h) (by omega)) mo_Mo_carry mv_Mo_carry t_1895 (by decide) rfl (by decide) (sh_111 _ _) rfl rfl (Nat.le_of_ble_eq_true rfl) d_Mo_isRest_30 ?_
          refine j_icmp_gt (tgt := 51) hx d_Mo_isRest_33 (by decide) (fun zc33 => ?_) (fun zc33 => ?_)
          · skip
            refine j_iconst (v := 0) hx d_Mo_isRest_51 (by decide) ?_
            exact j_iret hx hq rfl d_Mo_isRest_52 (by first | (first | exact (b2_t (p := mis σ c h) hb).symm | exact (b2_f (p := mis σ c h) (fun z => z i hlt2 (Or.inl ⟨i_nle zc18, zc33⟩))).symm | exact (b2_f (p := mis σ c h) (fun z => z i hlt2 (Or.inr (i_nle zc48)))).symm) | fail) (by first | (first | rfl | (simp only [zc9, zc18, zc33]; done) | (simp [zc9, zc18, zc33]; done)) | fail)
          · skip
            refine j_aload_n hx d_Mo_isRest_36 rfl 0 rfl ?_
            refine j_iload_n hx d_Mo_isRest_37 rfl 1 rfl ?_
            refine j_iload_n hx d_Mo_isRest_38 rfl 3 rfl ?_
            refine j_callVi hx (c_Mo_carry hG σ c (nI i) (by omega)) mo_Mo_carry mv_Mo_carry t_1895 (by decide) rfl (by decide) (sh_111 _ _) rfl rfl (Nat.le_of_ble_eq_true rfl) d_Mo_isRest_39 ?_
            refine j_aload_n hx d_Mo_isRest_42 rfl 0 rfl ?_
            refine j_iload_n hx d_Mo_isRest_43 rfl 1 rfl ?_
            refine j_iload_n hx d_Mo_isRest_44 rfl 2 rfl ?_
            refine j_callVi hx (c_Mo_carry hG σ c (nI h) (by omega)) mo_Mo_carry mv_Mo_carry t_1895 (by decide) rfl (by decide) (sh_111 _ _) rfl rfl (Nat.le_of_ble_eq_true rfl) d_Mo_isRest_45 ?_
            refine j_icmp_ge (tgt := 53) hx d_Mo_isRest_48 (by decide) (fun zc48 => ?_) (fun zc48 => ?_)
            · skip
              refine j_iinc hx [(3, .int ((nI i) + 1)), (0, .ref (G.1 111)), (1, .int (nI c)), (2, .int (nI h))] d_Mo_isRest_53 3 rfl rfl (by decide) rfl ?_
              refine j_goto (tgt := 2) hx d_Mo_isRest_56 (by decide) ?_
              refine J.lsub (ls' := [(0, .ref (G.1 111)), (1, .int (nI c)), (2, .int (nI h)), (3, .int ((nI i) + 1))]) [1, 2, 3, 0] rfl ?_
              refine J.to ?_ ?_ (ih2 _ ?_ (i + 1) hlt2 (all_s hb (by first | exact (fun z => z.elim (fun q => i_lelt zc18 q.1) (fun q => i_lelt zc48 q)) | exact (fun z => z.elim (fun q => zc33 q.2) (fun q => i_lelt zc48 q)) | exact (fun z => z.elim (fun q => i_lelt zc33 q.2) (fun q => i_lelt zc48 q)))) rfl)
              · first | (first | rfl | (simp [zc9, zc18, zc33, zc48]; done)) | fail
              · first | (simp only [nI_s]) | fail
              · first | (omega) | fail
            · skip
              refine j_iconst (v := 0) hx d_Mo_isRest_51 (by decide) ?_
              exact j_iret hx hq rfl d_Mo_isRest_52 (by first | (first | exact (b2_t (p := mis σ c h) hb).symm | exact (b2_f (p := mis σ c h) (fun z => z i hlt2 (Or.inl ⟨i_nle zc18, zc33⟩))).symm | exact (b2_f (p := mis σ c h) (fun z => z i hlt2 (Or.inr (i_nle zc48)))).symm) | fail) (by first | (first | rfl | (simp only [zc9, zc18, zc33, zc48]; done) | (simp [zc9, zc18, zc33, zc48]; done)) | fail)
  refine J.lsub (ls' := [(0, .ref (G.1 111)), (1, .int (nI c)), (2, .int (nI h)), (3, .int 0)]) [1, 2, 3, 0] rfl ?_
  refine J.to ?_ ?_ (hl2 _ 0 (Nat.zero_le _) (fun c h => absurd h (Nat.not_lt_zero c)) rfl)
  · first | (first | rfl | (simp []; done)) | fail
  · first | (first | rfl | (simp only [nI_s]; done) | (simp only [nI_s, it_s]; done) | (simp [nI_s, it_s, ]; done)) | fail

set_option maxRecDepth 20000 in
set_option maxHeartbeats 4000000 in
theorem c_Mo_headsIn {l : Launch} {G : Gz} (hG : zI G) (σ : St) (hw : mW σ) : MI l G y_Mo_headsIn prog_14_method_91_code 3 .int 1 [.ref (G.1 111)] σ (mhd σ (ct (σ 115 4))) σ := by
  refine MI.of hG (by decide) (Nat.le_of_ble_eq_true rfl) (fun X hx hq => ?_)
  show J l G X 3 σ 0 [(0, .ref (G.1 111))] []
  have hb1 : ct (σ 115 1) ≤ 6 := hw.1.2.1
  have hb2 : ct (σ 115 2) ≤ 3 := hw.1.2.2.1
  have hb0 : ct (σ 115 0) ≤ 12 := hw.1.1
  have hb3 : ct (σ 115 3) ≤ 6 := hw.1.2.2.2.1
  have hb4 : ct (σ 115 4) ≤ 6 := hw.1.2.2.2.2
  refine j_iconst (v := 0) hx d_Mo_headsIn_0 (by decide) ?_
  refine j_istore_n hx [(1, .int 0), (0, .ref (G.1 111))] d_Mo_headsIn_1 rfl (by decide) rfl ?_
  refine j_iconst (v := 0) hx d_Mo_headsIn_2 (by decide) ?_
  refine j_istore_n hx [(2, .int 0), (1, .int 0), (0, .ref (G.1 111))] d_Mo_headsIn_3 rfl (by decide) rfl ?_
  have hl4 : ∀ (N9 : Nat) (i : Nat), (i ≤ (ct (σ 115 4))) → (ct (σ 115 4)) - i = N9 → J l G X 3 σ 4 [(0, .ref (G.1 111)), (1, .int (mhd σ i)), (2, .int (nI i))] [] := by
    intro N9
    induction N9 using Nat.strongRecOn with
    | _ N9 ih4 =>
      intro i hi_i hm4
      refine j_iload_n hx d_Mo_headsIn_4 rfl 2 rfl ?_
      refine j_aload_n hx d_Mo_headsIn_5 rfl 0 rfl ?_
      refine j_get hx ck_Mo 12 (by decide) t_1430 (by decide) (sh_111 _ _) rfl d_Mo_headsIn_6 ?_
      refine j_iconst (v := 4) hx d_Mo_headsIn_9 (by decide) ?_
      have hz10_1 : zin (4) 6 4 := by first | exact ⟨rfl, by decide⟩ | exact zin_nI (by omega) (by decide) | exact zin_of (by omega) (by omega)
      refine j_ialdk hx ia_115 hz10_1 d_Mo_headsIn_10 ?_
      refine j_icmp_ge (tgt := 29) hx d_Mo_headsIn_11 (by decide) (fun zc11 => ?_) (fun zc11 => ?_)
      · skip
        obtain rfl := ct_end' hi_i zc11
        refine j_iload_n hx d_Mo_headsIn_29 rfl 1 rfl ?_
        exact j_iret hx hq rfl d_Mo_headsIn_30 (by first | (first | rfl | (simp only [zc11]; done) | (simp [zc11]; done)) | fail) (by first | (first | rfl | (simp only [zc11]; done) | (simp [zc11]; done)) | fail)
      · skip
        have hlt4 := ct_go hi_i zc11
        refine j_iload_n hx d_Mo_headsIn_14 rfl 1 rfl ?_
        refine j_aload_n hx d_Mo_headsIn_15 rfl 0 rfl ?_
        refine j_get hx ck_Mo 16 (by decide) t_1434 (by decide) (sh_111 _ _) rfl d_Mo_headsIn_16 ?_
        refine j_iload_n hx d_Mo_headsIn_19 rfl 2 rfl ?_
        have hz20_2 : zin (nI i) 6 i := by first | exact ⟨rfl, by decide⟩ | exact zin_nI (by omega) (by decide) | exact zin_of (by omega) (by omega)
        refine j_ialdk hx ia_119 hz20_2 d_Mo_headsIn_20 ?_
        refine j_iadd hx d_Mo_headsIn_21 ?_
        refine j_istore_n hx [(1, .int ((mhd σ i) + (σ 119 i))), (0, .ref (G.1 111)), (2, .int (nI i))] d_Mo_headsIn_22 rfl (by decide) rfl ?_
        refine j_iinc hx [(2, .int ((nI i) + 1)), (1, .int ((mhd σ i) + (σ 119 i))), (0, .ref (G.1 111))] d_Mo_headsIn_23 2 rfl rfl (by decide) rfl ?_
        refine j_goto (tgt := 4) hx d_Mo_headsIn_26 (by decide) ?_
        refine J.lsub (ls' := [(0, .ref (G.1 111)), (1, .int ((mhd σ i) + (σ 119 i))), (2, .int ((nI i) + 1))]) [2, 1, 0] rfl ?_
        refine J.to ?_ ?_ (ih4 _ ?_ (i + 1) hlt4 rfl)
        · first | (first | rfl | (simp [zc11]; done)) | fail
        · first | (simp only [nI_s]; rfl) | fail
        · first | (omega) | fail
  refine J.lsub (ls' := [(0, .ref (G.1 111)), (1, .int 0), (2, .int 0)]) [2, 1, 0] rfl ?_
  refine J.to ?_ ?_ (hl4 _ 0 (Nat.zero_le _) rfl)
  · first | (first | rfl | (simp []; done)) | fail
  · first | (rfl) | fail

set_option maxRecDepth 20000 in
set_option maxHeartbeats 4000000 in
theorem c_Mo_draw {l : Launch} {G : Gz} (hG : zI G) (σ : St) (n : Int32) (hn : ¬ n = 0) : MI l G y_Mo_draw prog_14_method_100_code 2 .int 1 [.ref (G.1 111), .int n] σ (mdv (σ 111 48) n) (up σ 111 48 (mdr (σ 111 48))) := by
  refine MI.of hG (by decide) (Nat.le_of_ble_eq_true rfl) (fun X hx hq => ?_)
  show J l G X 2 σ 0 [(0, .ref (G.1 111)), (1, .int n)] []
  refine j_aload_n hx d_Mo_draw_0 rfl 0 rfl ?_
  refine j_aload_n hx d_Mo_draw_1 rfl 0 rfl ?_
  refine j_get hx ck_Mo 48 (by decide) t_1466 (by decide) (sh_111 _ _) rfl d_Mo_draw_2 ?_
  refine j_ldcw (v := 1103515245) hx t_1950 d_Mo_draw_5 ?_
  refine j_imul hx d_Mo_draw_8 ?_
  refine j_sipush (v := 12345) hx d_Mo_draw_9 (by decide) ?_
  refine j_iadd hx d_Mo_draw_12 ?_
  refine j_put hx ck_Mo 48 (by decide) t_1466 (by decide) (sh_111 _ _) rfl (Nat.le_of_ble_eq_true rfl) (sh_111 _ _) d_Mo_draw_13 ?_
  obtain ⟨s9_1, eg_1⟩ : ∃ z : St, z = up σ 111 48 (mdr (σ 111 48)) := ⟨_, rfl⟩
  refine J.to (σ' := s9_1) (by rw [eg_1]; first | done | rfl) rfl ?_
  refine j_aload_n hx d_Mo_draw_16 rfl 0 rfl ?_
  refine j_get hx ck_Mo 48 (by decide) t_1466 (by decide) (sh_111 _ _) rfl d_Mo_draw_17 ?_
  refine j_bipush (v := 16) hx d_Mo_draw_20 (by decide) ?_
  refine j_ishr hx d_Mo_draw_22 ?_
  refine j_sipush (v := 32767) hx d_Mo_draw_23 (by decide) ?_
  refine j_iand hx d_Mo_draw_26 ?_
  refine j_iload_n hx d_Mo_draw_27 rfl 1 rfl ?_
  refine j_irem hx d_Mo_draw_28 (by exact hn) ?_
  exact j_iret hx hq rfl d_Mo_draw_29 (by first | (rw [eg_1, up_rd]; rfl) | fail) (by first | (rw [eg_1]) | fail)

