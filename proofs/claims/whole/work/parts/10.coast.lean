/-! ===== plain arithmetic of the class ===== -/
def lft (x y : Int32) : Int32 := if y = 0 then 0 else x - x / y * y
def cutz (x y : Int32) : Int32 := if y = 0 then 0 else x / y
abbrev fIn (m p : Int32) : Prop := ¬ p = 0 ∧ m - m / p * p = 0
def ab (x : Int32) : Int32 := if 0 ≤ x then x else 0 - x
abbrev iSn (at' p cell m reach : Int32) : Prop := ¬ p = 0 ∧ m - m / p * p = 0 ∧ ab (at' - cell) ≤ reach
abbrev hB (bits i : Int32) : Prop := (bits >>> (i &&& 31)) &&& 1 = 1
/-- the first of n that answers -/
def fnd {α : Type} (f : Nat → Option α) : Nat → Option α
  | 0 => none
  | n + 1 => match fnd f n with
    | some x => some x
    | none => f n
theorem fnd_s {α : Type} {f : Nat → Option α} {i : Nat} (h : fnd f i = none) : fnd f (i + 1) = f i := by simp [fnd, h]
theorem fnd_m {α : Type} {f : Nat → Option α} {i n : Nat} {x : α} (h : fnd f i = some x) (hn : i ≤ n) : fnd f n = some x := by
  induction n with
  | zero => rw [show i = 0 by omega] at h; exact h
  | succ n ih =>
    rcases Nat.lt_or_ge n i with q | q
    · rw [show n + 1 = i by omega]; exact h
    · simp [fnd, ih q]
theorem fnd_at {α : Type} {f : Nat → Option α} {i n : Nat} {x : α} (h : fnd f i = none) (hx : f i = some x) (hn : i < n) : fnd f n = some x := fnd_m ((fnd_s h).trans hx) hn
def bt (P : Nat → Prop) [DecidablePred P] (n : Nat) : Int32 := it (fun k a => a ||| (if P k then 1 <<< (nI k &&& 31) else 0)) 0 n
/-! ===== the coast (object 4): its numbers ===== -/
abbrev cM (σ : St) (i : Int32) : Int32 := rg (σ 6) 6 i
abbrev cR (σ : St) (i : Int32) : Int32 := rg (σ 8) 12 i
abbrev lX (σ : St) (i : Int32) : Int32 := rg (σ 10) 6 i
abbrev lP (σ : St) (i : Int32) : Int32 := rg (σ 12) 6 i
abbrev dX (σ : St) (i : Int32) : Int32 := rg (σ 14) 3 i
abbrev dP (σ : St) (i : Int32) : Int32 := rg (σ 16) 3 i
abbrev sC (σ : St) (i : Int32) : Int32 := rg (σ 18) 6 i
abbrev sW (σ : St) (i : Int32) : Int32 := rg (σ 20) 6 i
abbrev sT (σ : St) (i : Int32) : Int32 := rg (σ 22) 6 i
abbrev sD (σ : St) (i : Int32) : Int32 := rg (σ 24) 6 i
abbrev dN (σ : St) (i : Int32) : Int32 := rg (σ 26) 6 i
abbrev nC (σ : St) : Nat := ct (cM σ 0)
abbrev stk (σ : St) (s c : Int32) : Prop := 0 < cR σ c ∧ 6 ≤ cR σ c + sD σ s
def alv (σ : St) (s w : Int32) : Int32 := if w = -1 then sW σ s else (if sW σ s - cR σ w < 0 then 0 else sW σ s - cR σ w)
def pcg (σ : St) (s w : Int32) : Int32 := if ¬ w = -1 ∧ sW σ s ≤ cR σ w then sC σ s else 0
def shn (σ : St) (s w : Int32) : Int32 := if w = 0 then sC σ s else if w = 1 then sW σ s else if w = 2 then sT σ s else sD σ s
def rrP (σ : St) (c : Int32) : Bool := decide (0 ≤ c ∧ 0 < cR σ c)
def rrf (σ : St) (c : Int32) : Int32 := rv (cM σ 0) (rrP σ) (fun v _ => v + 1) 0 c
def lrB (σ : St) (c : Nat) (x : Int32 × Int32) : Int32 × Int32 := if x.2 < rrf σ (nI c) then (nI c, rrf σ (nI c)) else x
def lrf (σ : St) (n : Nat) : Int32 × Int32 := it (lrB σ) (-1, 0) n
def chv (σ : St) (t h : Int32) : Int32 := if ab (t - h) ≤ 1 then -3 else cR σ t
abbrev rbad (σ : St) (t h : Int32) (c : Nat) : Prop := (0 < cR σ (nI c) ∧ chv σ t h < chv σ (nI c) h) ∨ chv σ t (nI c) < chv σ t h
abbrev isr (σ : St) (t h : Int32) : Prop := ¬ cR σ t = 0 ∧ ∀ c, c < nC σ → ¬ rbad σ t h c
def rsT (σ : St) (n : Nat) : Int32 := it (fun t a => it (fun h a => a + b2 (isr σ (nI t) (nI h))) a (nC σ)) 0 n
def frH (σ : St) (t h : Nat) : Option Int32 := if isr σ (nI t) (nI h) then some (100 * nI t + nI h) else none
def frT (σ : St) (t : Nat) : Option Int32 := fnd (frH σ t) (nC σ)
def frs (σ : St) : Int32 := (fnd (frT σ) (nC σ)).getD (-1)
abbrev nDo (σ : St) : Nat := ct (cM σ 4)
def hds (σ : St) (n : Nat) : Int32 := sm (fun k => dN σ (nI k)) n
abbrev shA (σ : St) (door n all : Int32) (k : Nat) : Prop := lft (n * dN σ door) all < lft (n * dN σ (nI k)) all ∨ lft (n * dN σ (nI k)) all = lft (n * dN σ door) all ∧ nI k < door
def shO (σ : St) (n all : Int32) (m : Nat) : Int32 := it (fun k a => a - cutz (n * dN σ (nI k)) all) n m
def shB (σ : St) (door n all : Int32) (m : Nat) : Int32 := sm (fun k => b2 (shA σ door n all k)) m
def shr (σ : St) (door n : Int32) : Int32 := cutz (n * dN σ door) (hds σ (nDo σ)) + b2 (shB σ door n (hds σ (nDo σ)) (nDo σ) < shO σ n (hds σ (nDo σ)) (nDo σ))
def rof (a p n : Int32) : Int32 := bt (fun i => fIn (a + nI i) p) (ct n)
theorem sm_s {f : Nat → Int32} {n : Nat} : sm f (n + 1) = sm f n + f n := rfl
theorem bt_s {P : Nat → Prop} [DecidablePred P] {n : Nat} : bt P (n + 1) = bt P n ||| (if P n then 1 <<< (nI n &&& 31) else 0) := rfl
theorem i_neg {x y : Int32} (h : ¬ x ≤ y) : y < x := i_nle h
theorem i_ltle {x y : Int32} (h : x < y) : ¬ y ≤ x := i_lle h
theorem rrP_t {σ : St} {c : Int32} (h1 : ¬ c < 0) (h2 : ¬ cR σ c ≤ 0) : rrP σ c = true := decide_eq_true ⟨i_nlt h1, i_nle h2⟩
theorem rr1 {σ : St} {len c : Int32} (h1 : c < 0) : ¬ (c < len ∧ rrP σ c = true) := fun z => i_lle h1 (of_decide_eq_true z.2).1
theorem rr2 {σ : St} {len c : Int32} (h1 : cR σ c ≤ 0) : ¬ (c < len ∧ rrP σ c = true) := fun z => i_lelt h1 (of_decide_eq_true z.2).2
theorem all_s {P : Nat → Prop} {i : Nat} (h : ∀ c, c < i → P c) (hi : P i) : ∀ c, c < i + 1 → P c := fun c hc => (Nat.lt_succ_iff_lt_or_eq.mp hc).elim (h c) (fun e => e ▸ hi)
theorem i_nlt9 {x y : Int32} (h : ¬ x < y) : y ≤ x := i_nlt h
theorem i_nle9 {x y : Int32} (h : y < x) : y < x := h
theorem b2_n0 {p : Prop} [Decidable p] (h : ¬ b2 p = 0) : b2 p = 1 := b2_t (Decidable.not_not.mp (fun q => h (b2_f q)))
theorem b2_z {p : Prop} [Decidable p] (h : b2 p = 0) : ¬ p := fun q => absurd ((b2_t q).symm.trans h) (by decide)
theorem b2_nz {p : Prop} [Decidable p] (h : ¬ b2 p = 0) : p := Decidable.not_not.mp (fun q => h (b2_f q))

set_option maxRecDepth 20000 in
set_option maxHeartbeats 4000000 in
theorem c_DL_left {l : Launch} {G : Gz} (hG : zI G) (σ : St) (x : Int32) (y : Int32) : MI l G y_DL_left prog_1_method_49_code 2 .int 1 [.int x, .int y] σ (lft x y) σ := by
  refine MI.of hG (by decide) (Nat.le_of_ble_eq_true rfl) (fun X hx hq => ?_)
  show J l G X 2 σ 0 [(0, .int x), (1, .int y)] []
  refine j_iload_n hx d_DL_left_0 rfl 1 rfl ?_
  refine j_if_ne (tgt := 8) hx d_DL_left_1 (by decide) (fun zc1 => ?_) (fun zc1 => ?_)
  · skip
    refine j_iload_n hx d_DL_left_8 rfl 0 rfl ?_
    refine j_iload_n hx d_DL_left_9 rfl 1 rfl ?_
    refine j_irem hx d_DL_left_10 (by first | assumption | decide) ?_
    exact j_iret hx hq rfl d_DL_left_11 (by first | (first | rfl | (simp only [lft, zc1]; done) | (simp [lft, zc1]; done)) | fail) (by first | (first | rfl | (simp only [lft, zc1]; done) | (simp [lft, zc1]; done)) | fail)
  · skip
    refine j_iconst (v := 0) hx d_DL_left_4 (by decide) ?_
    refine j_goto (tgt := 11) hx d_DL_left_5 (by decide) ?_
    exact j_iret hx hq rfl d_DL_left_11 (by first | (first | rfl | (simp only [lft, zc1]; done) | (simp [lft, zc1]; done)) | fail) (by first | (first | rfl | (simp only [lft, zc1]; done) | (simp [lft, zc1]; done)) | fail)

set_option maxRecDepth 20000 in
set_option maxHeartbeats 4000000 in
theorem c_DL_cut {l : Launch} {G : Gz} (hG : zI G) (σ : St) (x : Int32) (y : Int32) : MI l G y_DL_cut prog_1_method_50_code 2 .int 1 [.int x, .int y] σ (cutz x y) σ := by
  refine MI.of hG (by decide) (Nat.le_of_ble_eq_true rfl) (fun X hx hq => ?_)
  show J l G X 2 σ 0 [(0, .int x), (1, .int y)] []
  refine j_iload_n hx d_DL_cut_0 rfl 1 rfl ?_
  refine j_if_ne (tgt := 8) hx d_DL_cut_1 (by decide) (fun zc1 => ?_) (fun zc1 => ?_)
  · skip
    refine j_iload_n hx d_DL_cut_8 rfl 0 rfl ?_
    refine j_iload_n hx d_DL_cut_9 rfl 1 rfl ?_
    refine j_idiv hx d_DL_cut_10 (by first | assumption | decide) ?_
    exact j_iret hx hq rfl d_DL_cut_11 (by first | (first | rfl | (simp only [cutz, zc1]; done) | (simp [cutz, zc1]; done)) | fail) (by first | (first | rfl | (simp only [cutz, zc1]; done) | (simp [cutz, zc1]; done)) | fail)
  · skip
    refine j_iconst (v := 0) hx d_DL_cut_4 (by decide) ?_
    refine j_goto (tgt := 11) hx d_DL_cut_5 (by decide) ?_
    exact j_iret hx hq rfl d_DL_cut_11 (by first | (first | rfl | (simp only [cutz, zc1]; done) | (simp [cutz, zc1]; done)) | fail) (by first | (first | rfl | (simp only [cutz, zc1]; done) | (simp [cutz, zc1]; done)) | fail)

set_option maxRecDepth 20000 in
set_option maxHeartbeats 4000000 in
theorem c_DL_flashesIn {l : Launch} {G : Gz} (hG : zI G) (σ : St) (m : Int32) (p : Int32) : MI l G y_DL_flashesIn prog_1_method_51_code 2 .boolean 1 [.int m, .int p] σ (b2 (fIn m p)) σ := by
  refine MI.of hG (by decide) (Nat.le_of_ble_eq_true rfl) (fun X hx hq => ?_)
  show J l G X 2 σ 0 [(0, .int m), (1, .int p)] []
  refine j_iload_n hx d_DL_flashesIn_0 rfl 1 rfl ?_
  refine j_if_eq (tgt := 14) hx d_DL_flashesIn_1 (by decide) (fun zc1 => ?_) (fun zc1 => ?_)
  · skip
    refine j_iconst (v := 0) hx d_DL_flashesIn_14 (by decide) ?_
    exact j_iret hx hq rfl d_DL_flashesIn_15 (by first | (simp [b2, fIn, zc1]) | fail) (by first | (first | rfl | (simp only [zc1]; done) | (simp [zc1]; done)) | fail)
  · skip
    refine j_iload_n hx d_DL_flashesIn_4 rfl 0 rfl ?_
    refine j_iload_n hx d_DL_flashesIn_5 rfl 1 rfl ?_
    refine j_irem hx d_DL_flashesIn_6 (by first | assumption | decide) ?_
    refine j_if_ne (tgt := 14) hx d_DL_flashesIn_7 (by decide) (fun zc7 => ?_) (fun zc7 => ?_)
    · skip
      refine j_iconst (v := 0) hx d_DL_flashesIn_14 (by decide) ?_
      exact j_iret hx hq rfl d_DL_flashesIn_15 (by first | (simp [b2, fIn, zc1, zc7]) | fail) (by first | (first | rfl | (simp only [zc1, zc7]; done) | (simp [zc1, zc7]; done)) | fail)
    · skip
      refine j_iconst (v := 1) hx d_DL_flashesIn_10 (by decide) ?_
      refine j_goto (tgt := 15) hx d_DL_flashesIn_11 (by decide) ?_
      exact j_iret hx hq rfl d_DL_flashesIn_15 (by first | (simp [b2, fIn, zc1, zc7]) | fail) (by first | (first | rfl | (simp only [zc1, zc7]; done) | (simp [zc1, zc7]; done)) | fail)

set_option maxRecDepth 20000 in
set_option maxHeartbeats 4000000 in
theorem c_DL_isSeen {l : Launch} {G : Gz} (hG : zI G) (σ : St) (at9 : Int32) (p : Int32) (cell : Int32) (m : Int32) (reach : Int32) : MI l G y_DL_isSeen prog_1_method_52_code 5 .boolean 1 [.int at9, .int p, .int cell, .int m, .int reach] σ (b2 (iSn at9 p cell m reach)) σ := by
  refine MI.of hG (by decide) (Nat.le_of_ble_eq_true rfl) (fun X hx hq => ?_)
  show J l G X 5 σ 0 [(0, .int at9), (1, .int p), (2, .int cell), (3, .int m), (4, .int reach)] []
  refine j_iload_n hx d_DL_isSeen_0 rfl 1 rfl ?_
  refine j_if_eq (tgt := 25) hx d_DL_isSeen_1 (by decide) (fun zc1 => ?_) (fun zc1 => ?_)
  · skip
    refine j_iconst (v := 0) hx d_DL_isSeen_25 (by decide) ?_
    exact j_iret hx hq rfl d_DL_isSeen_26 (by first | (first | exact (b2_t (p := iSn at9 p cell m reach) ⟨zc1, zc7, i_nlt zc18⟩).symm | exact (b2_f (p := iSn at9 p cell m reach) (fun z => i_lle zc18 z.2.2)).symm | exact (b2_f (p := iSn at9 p cell m reach) (fun z => zc7 z.2.1)).symm | exact (b2_f (p := iSn at9 p cell m reach) (fun z => z.1 zc1)).symm) | fail) (by first | (first | rfl | (simp only [zc1]; done) | (simp [zc1]; done)) | fail)
  · skip
    refine j_iload_n hx d_DL_isSeen_4 rfl 3 rfl ?_
    refine j_iload_n hx d_DL_isSeen_5 rfl 1 rfl ?_
    refine j_irem hx d_DL_isSeen_6 (by first | assumption | decide) ?_
    refine j_if_ne (tgt := 25) hx d_DL_isSeen_7 (by decide) (fun zc7 => ?_) (fun zc7 => ?_)
    · skip
      refine j_iconst (v := 0) hx d_DL_isSeen_25 (by decide) ?_
      exact j_iret hx hq rfl d_DL_isSeen_26 (by first | (first | exact (b2_t (p := iSn at9 p cell m reach) ⟨zc1, zc7, i_nlt zc18⟩).symm | exact (b2_f (p := iSn at9 p cell m reach) (fun z => i_lle zc18 z.2.2)).symm | exact (b2_f (p := iSn at9 p cell m reach) (fun z => zc7 z.2.1)).symm | exact (b2_f (p := iSn at9 p cell m reach) (fun z => z.1 zc1)).symm) | fail) (by first | (first | rfl | (simp only [zc1, zc7]; done) | (simp [zc1, zc7]; done)) | fail)
    · skip
      refine j_iload_n hx d_DL_isSeen_10 rfl 0 rfl ?_
      refine j_iload_n hx d_DL_isSeen_11 rfl 2 rfl ?_
      refine j_isub hx d_DL_isSeen_12 ?_
      refine j_mabs hx t_460 (by decide) (Nat.le_of_ble_eq_true rfl) d_DL_isSeen_13 ?_
      refine j_iload hx d_DL_isSeen_16 4 rfl ?_
      refine j_icmp_gt (tgt := 25) hx d_DL_isSeen_18 (by decide) (fun zc18 => ?_) (fun zc18 => ?_)
      · skip
        refine j_iconst (v := 0) hx d_DL_isSeen_25 (by decide) ?_
        exact j_iret hx hq rfl d_DL_isSeen_26 (by first | (first | exact (b2_t (p := iSn at9 p cell m reach) ⟨zc1, zc7, i_nlt zc18⟩).symm | exact (b2_f (p := iSn at9 p cell m reach) (fun z => i_lle zc18 z.2.2)).symm | exact (b2_f (p := iSn at9 p cell m reach) (fun z => zc7 z.2.1)).symm | exact (b2_f (p := iSn at9 p cell m reach) (fun z => z.1 zc1)).symm) | fail) (by first | (first | rfl | (simp only [zc1, zc7, zc18]; done) | (simp [zc1, zc7, zc18]; done)) | fail)
      · skip
        refine j_iconst (v := 1) hx d_DL_isSeen_21 (by decide) ?_
        refine j_goto (tgt := 26) hx d_DL_isSeen_22 (by decide) ?_
        exact j_iret hx hq rfl d_DL_isSeen_26 (by first | (first | exact (b2_t (p := iSn at9 p cell m reach) ⟨zc1, zc7, i_nlt zc18⟩).symm | exact (b2_f (p := iSn at9 p cell m reach) (fun z => i_lle zc18 z.2.2)).symm | exact (b2_f (p := iSn at9 p cell m reach) (fun z => zc7 z.2.1)).symm | exact (b2_f (p := iSn at9 p cell m reach) (fun z => z.1 zc1)).symm) | fail) (by first | (first | rfl | (simp only [zc1, zc7, zc18]; done) | (simp [zc1, zc7, zc18]; done)) | fail)

set_option maxRecDepth 20000 in
set_option maxHeartbeats 4000000 in
theorem c_DL_hasBit {l : Launch} {G : Gz} (hG : zI G) (σ : St) (bits : Int32) (i : Int32) : MI l G y_DL_hasBit prog_1_method_53_code 2 .boolean 1 [.int bits, .int i] σ (b2 (hB bits i)) σ := by
  refine MI.of hG (by decide) (Nat.le_of_ble_eq_true rfl) (fun X hx hq => ?_)
  show J l G X 2 σ 0 [(0, .int bits), (1, .int i)] []
  refine j_iload_n hx d_DL_hasBit_0 rfl 0 rfl ?_
  refine j_iload_n hx d_DL_hasBit_1 rfl 1 rfl ?_
  refine j_ishr hx d_DL_hasBit_2 ?_
  refine j_iconst (v := 1) hx d_DL_hasBit_3 (by decide) ?_
  refine j_iand hx d_DL_hasBit_4 ?_
  refine j_iconst (v := 1) hx d_DL_hasBit_5 (by decide) ?_
  refine j_icmp_ne (tgt := 13) hx d_DL_hasBit_6 (by decide) (fun zc6 => ?_) (fun zc6 => ?_)
  · skip
    refine j_iconst (v := 0) hx d_DL_hasBit_13 (by decide) ?_
    exact j_iret hx hq rfl d_DL_hasBit_14 (by first | (simp [b2, hB, zc6]) | fail) (by first | (first | rfl | (simp only [zc6]; done) | (simp [zc6]; done)) | fail)
  · skip
    refine j_iconst (v := 1) hx d_DL_hasBit_9 (by decide) ?_
    refine j_goto (tgt := 14) hx d_DL_hasBit_10 (by decide) ?_
    exact j_iret hx hq rfl d_DL_hasBit_14 (by first | (simp [b2, hB, zc6]) | fail) (by first | (first | rfl | (simp only [zc6]; done) | (simp [zc6]; done)) | fail)

set_option maxRecDepth 20000 in
set_option maxHeartbeats 4000000 in
theorem c_Coast_sight {l : Launch} {G : Gz} (hG : zI G) (σ : St) : MI l G y_Coast_sight prog_2_method_3_code 1 .int 1 [.ref (G.1 4)] σ (σ 4 11) σ := by
  refine MI.of hG (by decide) (Nat.le_of_ble_eq_true rfl) (fun X hx hq => ?_)
  show J l G X 1 σ 0 [(0, .ref (G.1 4))] []
  refine j_aload_n hx d_Coast_sight_0 rfl 0 rfl ?_
  refine j_get hx ck_Coast 11 (by decide) t_113 (by decide) (sh_4 _ _) rfl d_Coast_sight_1 ?_
  exact j_iret hx hq rfl d_Coast_sight_4 (by first | (first | rfl | (simp only []; done) | (simp []; done)) | fail) (by first | (first | rfl | (simp only []; done) | (simp []; done)) | fail)

set_option maxRecDepth 20000 in
set_option maxHeartbeats 4000000 in
theorem c_Coast_shipNumber {l : Launch} {G : Gz} (hG : zI G) (σ : St) (s : Int32) (w : Int32) : MI l G y_Coast_shipNumber prog_2_method_4_code 3 .int 2 [.ref (G.1 4), .int s, .int w] σ (shn σ s w) σ := by
  refine MI.of hG (by decide) (Nat.le_of_ble_eq_true rfl) (fun X hx hq => ?_)
  show J l G X 3 σ 0 [(0, .ref (G.1 4)), (1, .int s), (2, .int w)] []
  refine j_iload_n hx d_Coast_shipNumber_0 rfl 2 rfl ?_
  refine J.sw (x := w) 0 (fun zc1_0 => ?_) (fun zc1_0 => ?_)
  · skip
    refine j_tableIn (x := w) (tgt := 28) (off := 27) hx d_Coast_shipNumber_1 (by rw [zc1_0]; decide) (by rw [zc1_0]; decide) (by rw [zc1_0]; decide) (by decide) ?_
    refine j_aload_n hx d_Coast_shipNumber_28 rfl 0 rfl ?_
    refine j_get hx ck_Coast 6 (by decide) t_103 (by decide) (sh_4 _ _) rfl d_Coast_shipNumber_29 ?_
    refine j_iload_n hx d_Coast_shipNumber_32 rfl 1 rfl ?_
    refine j_callVi hx (c_Row_getA hG ir_17 18 rfl σ s) mo_Row_get mv_Row_get t_484 (by decide) rfl (by decide) (sh_17 _ _) rfl rfl (Nat.le_of_ble_eq_true rfl) d_Coast_shipNumber_33 ?_
    exact j_iret hx hq rfl d_Coast_shipNumber_36 (by first | (simp [shn, zc1_0]) | fail) (by first | (first | rfl | (simp only [zc1_0]; done) | (simp [zc1_0]; done)) | fail)
  refine J.sw (x := w) 1 (fun zc1_1 => ?_) (fun zc1_1 => ?_)
  · skip
    refine j_tableIn (x := w) (tgt := 37) (off := 36) hx d_Coast_shipNumber_1 (by rw [zc1_1]; decide) (by rw [zc1_1]; decide) (by rw [zc1_1]; decide) (by decide) ?_
    refine j_aload_n hx d_Coast_shipNumber_37 rfl 0 rfl ?_
    refine j_get hx ck_Coast 7 (by decide) t_106 (by decide) (sh_4 _ _) rfl d_Coast_shipNumber_38 ?_
    refine j_iload_n hx d_Coast_shipNumber_41 rfl 1 rfl ?_
    refine j_callVi hx (c_Row_getA hG ir_19 20 rfl σ s) mo_Row_get mv_Row_get t_484 (by decide) rfl (by decide) (sh_19 _ _) rfl rfl (Nat.le_of_ble_eq_true rfl) d_Coast_shipNumber_42 ?_
    exact j_iret hx hq rfl d_Coast_shipNumber_45 (by first | (simp [shn, zc1_0, zc1_1]) | fail) (by first | (first | rfl | (simp only [zc1_0, zc1_1]; done) | (simp [zc1_0, zc1_1]; done)) | fail)
  refine J.sw (x := w) 2 (fun zc1_2 => ?_) (fun zc1_2 => ?_)
  · skip
    refine j_tableIn (x := w) (tgt := 46) (off := 45) hx d_Coast_shipNumber_1 (by rw [zc1_2]; decide) (by rw [zc1_2]; decide) (by rw [zc1_2]; decide) (by decide) ?_
    refine j_aload_n hx d_Coast_shipNumber_46 rfl 0 rfl ?_
    refine j_get hx ck_Coast 8 (by decide) t_108 (by decide) (sh_4 _ _) rfl d_Coast_shipNumber_47 ?_
    refine j_iload_n hx d_Coast_shipNumber_50 rfl 1 rfl ?_
    refine j_callVi hx (c_Row_getA hG ir_21 22 rfl σ s) mo_Row_get mv_Row_get t_484 (by decide) rfl (by decide) (sh_21 _ _) rfl rfl (Nat.le_of_ble_eq_true rfl) d_Coast_shipNumber_51 ?_
    exact j_iret hx hq rfl d_Coast_shipNumber_54 (by first | (simp [shn, zc1_0, zc1_1, zc1_2]) | fail) (by first | (first | rfl | (simp only [zc1_0, zc1_1, zc1_2]; done) | (simp [zc1_0, zc1_1, zc1_2]; done)) | fail)
  refine j_tableOut (x := w) (tgt := 55) hx d_Coast_shipNumber_1 (by have h0 := sw_ne zc1_0; have h1 := sw_ne zc1_1; have h2 := sw_ne zc1_2; have q0 : Int32.toInt 0 = 0 := rfl; have q1 : Int32.toInt 1 = 1 := rfl; have q2 : Int32.toInt 2 = 2 := rfl; omega) (by decide) ?_
  refine j_aload_n hx d_Coast_shipNumber_55 rfl 0 rfl ?_
  refine j_get hx ck_Coast 9 (by decide) t_110 (by decide) (sh_4 _ _) rfl d_Coast_shipNumber_56 ?_
  refine j_iload_n hx d_Coast_shipNumber_59 rfl 1 rfl ?_
  refine j_callVi hx (c_Row_getA hG ir_23 24 rfl σ s) mo_Row_get mv_Row_get t_484 (by decide) rfl (by decide) (sh_23 _ _) rfl rfl (Nat.le_of_ble_eq_true rfl) d_Coast_shipNumber_60 ?_
  exact j_iret hx hq rfl d_Coast_shipNumber_63 (by first | (simp [shn, zc1_0, zc1_1, zc1_2]) | fail) (by first | (first | rfl | (simp only [zc1_0, zc1_1, zc1_2]; done) | (simp [zc1_0, zc1_1, zc1_2]; done)) | fail)

set_option maxRecDepth 20000 in
set_option maxHeartbeats 4000000 in
theorem c_Coast_strikes {l : Launch} {G : Gz} (hG : zI G) (σ : St) (s : Int32) (c : Int32) : MI l G y_Coast_strikes prog_2_method_9_code 4 .boolean 2 [.ref (G.1 4), .int s, .int c] σ (b2 (stk σ s c)) σ := by
  refine MI.of hG (by decide) (Nat.le_of_ble_eq_true rfl) (fun X hx hq => ?_)
  show J l G X 4 σ 0 [(0, .ref (G.1 4)), (1, .int s), (2, .int c)] []
  refine j_aload_n hx d_Coast_strikes_0 rfl 0 rfl ?_
  refine j_get hx ck_Coast 1 (by decide) t_89 (by decide) (sh_4 _ _) rfl d_Coast_strikes_1 ?_
  refine j_iload_n hx d_Coast_strikes_4 rfl 2 rfl ?_
  refine j_callVi hx (c_Row_getA hG ir_7 8 rfl σ c) mo_Row_get mv_Row_get t_484 (by decide) rfl (by decide) (sh_7 _ _) rfl rfl (Nat.le_of_ble_eq_true rfl) d_Coast_strikes_5 ?_
  refine j_istore_n hx [(3, .int (rg (σ (7 + 1)) 12 c)), (0, .ref (G.1 4)), (1, .int s), (2, .int c)] d_Coast_strikes_8 rfl (by decide) rfl ?_
  refine j_iload_n hx d_Coast_strikes_9 rfl 0 rfl ?_
  refine j_if_le (tgt := 32) hx d_Coast_strikes_10 (by decide) (fun zc10 => ?_) (fun zc10 => ?_)
  · skip
    refine j_iconst (v := 0) hx d_Coast_strikes_32 (by decide) ?_
    exact j_iret hx hq rfl d_Coast_strikes_33 (by first | (first | exact (b2_t (p := stk σ s c) ⟨i_nle zc10, i_nlt zc25⟩).symm | exact (b2_f (p := stk σ s c) (fun z => i_lelt zc10 z.1)).symm | exact (b2_f (p := stk σ s c) (fun z => i_ltle zc25 z.2)).symm) | fail) (by first | (first | rfl | (simp only [zc10]; done) | (simp [zc10]; done)) | fail)
  · skip
    refine j_iload_n hx d_Coast_strikes_13 rfl 0 rfl ?_
    refine j_aload_n hx d_Coast_strikes_14 rfl 1 rfl ?_
    refine j_get hx ck_Coast 9 (by decide) t_110 (by decide) (sh_4 _ _) rfl d_Coast_strikes_15 ?_
    refine j_iload_n hx d_Coast_strikes_18 rfl 2 rfl ?_
    refine j_callVi hx (c_Row_getA hG ir_23 24 rfl σ s) mo_Row_get mv_Row_get t_484 (by decide) rfl (by decide) (sh_23 _ _) rfl rfl (Nat.le_of_ble_eq_true rfl) d_Coast_strikes_19 ?_
    refine j_iadd hx d_Coast_strikes_22 ?_
    refine j_bipush (v := 6) hx d_Coast_strikes_23 (by decide) ?_
    refine j_icmp_lt (tgt := 32) hx d_Coast_strikes_25 (by decide) (fun zc25 => ?_) (fun zc25 => ?_)
    · skip
      refine j_iconst (v := 0) hx d_Coast_strikes_32 (by decide) ?_
      exact j_iret hx hq rfl d_Coast_strikes_33 (by first | (first | exact (b2_t (p := stk σ s c) ⟨i_nle zc10, i_nlt zc25⟩).symm | exact (b2_f (p := stk σ s c) (fun z => i_lelt zc10 z.1)).symm | exact (b2_f (p := stk σ s c) (fun z => i_ltle zc25 z.2)).symm) | fail) (by first | (first | rfl | (simp only [zc10, zc25]; done) | (simp [zc10, zc25]; done)) | fail)
    · skip
      refine j_iconst (v := 1) hx d_Coast_strikes_28 (by decide) ?_
      refine j_goto (tgt := 33) hx d_Coast_strikes_29 (by decide) ?_
      exact j_iret hx hq rfl d_Coast_strikes_33 (by first | (first | exact (b2_t (p := stk σ s c) ⟨i_nle zc10, i_nlt zc25⟩).symm | exact (b2_f (p := stk σ s c) (fun z => i_lelt zc10 z.1)).symm | exact (b2_f (p := stk σ s c) (fun z => i_ltle zc25 z.2)).symm) | fail) (by first | (first | rfl | (simp only [zc10, zc25]; done) | (simp [zc10, zc25]; done)) | fail)

set_option maxRecDepth 20000 in
set_option maxHeartbeats 4000000 in
theorem c_Coast_alive {l : Launch} {G : Gz} (hG : zI G) (σ : St) (s : Int32) (w : Int32) : MI l G y_Coast_alive prog_2_method_10_code 3 .int 2 [.ref (G.1 4), .int s, .int w] σ (alv σ s w) σ := by
  refine MI.of hG (by decide) (Nat.le_of_ble_eq_true rfl) (fun X hx hq => ?_)
  show J l G X 3 σ 0 [(0, .ref (G.1 4)), (1, .int s), (2, .int w)] []
  refine j_iload_n hx d_Coast_alive_0 rfl 2 rfl ?_
  refine j_iconst (v := (-1)) hx d_Coast_alive_1 (by decide) ?_
  refine j_icmp_ne (tgt := 16) hx d_Coast_alive_2 (by decide) (fun zc2 => ?_) (fun zc2 => ?_)
  · skip
    refine j_aload_n hx d_Coast_alive_16 rfl 0 rfl ?_
    refine j_get hx ck_Coast 7 (by decide) t_106 (by decide) (sh_4 _ _) rfl d_Coast_alive_17 ?_
    refine j_iload_n hx d_Coast_alive_20 rfl 1 rfl ?_
    refine j_callVi hx (c_Row_getA hG ir_19 20 rfl σ s) mo_Row_get mv_Row_get t_484 (by decide) rfl (by decide) (sh_19 _ _) rfl rfl (Nat.le_of_ble_eq_true rfl) d_Coast_alive_21 ?_
    refine j_aload_n hx d_Coast_alive_24 rfl 0 rfl ?_
    refine j_get hx ck_Coast 1 (by decide) t_89 (by decide) (sh_4 _ _) rfl d_Coast_alive_25 ?_
    refine j_iload_n hx d_Coast_alive_28 rfl 2 rfl ?_
    refine j_callVi hx (c_Row_getA hG ir_7 8 rfl σ w) mo_Row_get mv_Row_get t_484 (by decide) rfl (by decide) (sh_7 _ _) rfl rfl (Nat.le_of_ble_eq_true rfl) d_Coast_alive_29 ?_
    refine j_isub hx d_Coast_alive_32 ?_
    refine j_iconst (v := 0) hx d_Coast_alive_33 (by decide) ?_
    refine j_mmax hx t_917 (by decide) (Nat.le_of_ble_eq_true rfl) d_Coast_alive_34 ?_
    exact j_iret hx hq rfl d_Coast_alive_37 (by first | (simp [alv, zc2]) | fail) (by first | (first | rfl | (simp only [zc2]; done) | (simp [zc2]; done)) | fail)
  · skip
    refine j_aload_n hx d_Coast_alive_5 rfl 0 rfl ?_
    refine j_get hx ck_Coast 7 (by decide) t_106 (by decide) (sh_4 _ _) rfl d_Coast_alive_6 ?_
    refine j_iload_n hx d_Coast_alive_9 rfl 1 rfl ?_
    refine j_callVi hx (c_Row_getA hG ir_19 20 rfl σ s) mo_Row_get mv_Row_get t_484 (by decide) rfl (by decide) (sh_19 _ _) rfl rfl (Nat.le_of_ble_eq_true rfl) d_Coast_alive_10 ?_
    refine j_goto (tgt := 37) hx d_Coast_alive_13 (by decide) ?_
    exact j_iret hx hq rfl d_Coast_alive_37 (by first | (simp [alv, zc2]) | fail) (by first | (first | rfl | (simp only [zc2]; done) | (simp [zc2]; done)) | fail)

set_option maxRecDepth 20000 in
set_option maxHeartbeats 4000000 in
theorem c_Coast_parishCargo {l : Launch} {G : Gz} (hG : zI G) (σ : St) (s : Int32) (w : Int32) : MI l G y_Coast_parishCargo prog_2_method_11_code 3 .int 2 [.ref (G.1 4), .int s, .int w] σ (pcg σ s w) σ := by
  refine MI.of hG (by decide) (Nat.le_of_ble_eq_true rfl) (fun X hx hq => ?_)
  show J l G X 3 σ 0 [(0, .ref (G.1 4)), (1, .int s), (2, .int w)] []
  refine j_iload_n hx d_Coast_parishCargo_0 rfl 2 rfl ?_
  refine j_iconst (v := (-1)) hx d_Coast_parishCargo_1 (by decide) ?_
  refine j_icmp_eq (tgt := 35) hx d_Coast_parishCargo_2 (by decide) (fun zc2 => ?_) (fun zc2 => ?_)
  · skip
    refine j_iconst (v := 0) hx d_Coast_parishCargo_35 (by decide) ?_
    exact j_iret hx hq rfl d_Coast_parishCargo_36 (by first | (first | exact (if_pos (c := ¬ w = -1 ∧ sW σ s ≤ cR σ w) ⟨zc2, i_nlt zc21⟩).symm | exact (if_neg (c := ¬ w = -1 ∧ sW σ s ≤ cR σ w) (fun z => z.1 zc2)).symm | exact (if_neg (c := ¬ w = -1 ∧ sW σ s ≤ cR σ w) (fun z => i_ltle zc21 z.2)).symm) | fail) (by first | (first | rfl | (simp only [zc2]; done) | (simp [zc2]; done)) | fail)
  · skip
    refine j_aload_n hx d_Coast_parishCargo_5 rfl 0 rfl ?_
    refine j_get hx ck_Coast 7 (by decide) t_106 (by decide) (sh_4 _ _) rfl d_Coast_parishCargo_6 ?_
    refine j_iload_n hx d_Coast_parishCargo_9 rfl 1 rfl ?_
    refine j_callVi hx (c_Row_getA hG ir_19 20 rfl σ s) mo_Row_get mv_Row_get t_484 (by decide) rfl (by decide) (sh_19 _ _) rfl rfl (Nat.le_of_ble_eq_true rfl) d_Coast_parishCargo_10 ?_
    refine j_aload_n hx d_Coast_parishCargo_13 rfl 0 rfl ?_
    refine j_get hx ck_Coast 1 (by decide) t_89 (by decide) (sh_4 _ _) rfl d_Coast_parishCargo_14 ?_
    refine j_iload_n hx d_Coast_parishCargo_17 rfl 2 rfl ?_
    refine j_callVi hx (c_Row_getA hG ir_7 8 rfl σ w) mo_Row_get mv_Row_get t_484 (by decide) rfl (by decide) (sh_7 _ _) rfl rfl (Nat.le_of_ble_eq_true rfl) d_Coast_parishCargo_18 ?_
    refine j_icmp_gt (tgt := 35) hx d_Coast_parishCargo_21 (by decide) (fun zc21 => ?_) (fun zc21 => ?_)
    · skip
      refine j_iconst (v := 0) hx d_Coast_parishCargo_35 (by decide) ?_
      exact j_iret hx hq rfl d_Coast_parishCargo_36 (by first | (first | exact (if_pos (c := ¬ w = -1 ∧ sW σ s ≤ cR σ w) ⟨zc2, i_nlt zc21⟩).symm | exact (if_neg (c := ¬ w = -1 ∧ sW σ s ≤ cR σ w) (fun z => z.1 zc2)).symm | exact (if_neg (c := ¬ w = -1 ∧ sW σ s ≤ cR σ w) (fun z => i_ltle zc21 z.2)).symm) | fail) (by first | (first | rfl | (simp only [zc2, zc21]; done) | (simp [zc2, zc21]; done)) | fail)
    · skip
      refine j_aload_n hx d_Coast_parishCargo_24 rfl 0 rfl ?_
      refine j_get hx ck_Coast 6 (by decide) t_103 (by decide) (sh_4 _ _) rfl d_Coast_parishCargo_25 ?_
      refine j_iload_n hx d_Coast_parishCargo_28 rfl 1 rfl ?_
      refine j_callVi hx (c_Row_getA hG ir_17 18 rfl σ s) mo_Row_get mv_Row_get t_484 (by decide) rfl (by decide) (sh_17 _ _) rfl rfl (Nat.le_of_ble_eq_true rfl) d_Coast_parishCargo_29 ?_
      refine j_goto (tgt := 36) hx d_Coast_parishCargo_32 (by decide) ?_
      exact j_iret hx hq rfl d_Coast_parishCargo_36 (by first | (first | exact (if_pos (c := ¬ w = -1 ∧ sW σ s ≤ cR σ w) ⟨zc2, i_nlt zc21⟩).symm | exact (if_neg (c := ¬ w = -1 ∧ sW σ s ≤ cR σ w) (fun z => z.1 zc2)).symm | exact (if_neg (c := ¬ w = -1 ∧ sW σ s ≤ cR σ w) (fun z => i_ltle zc21 z.2)).symm) | fail) (by first | (first | rfl | (simp only [zc2, zc21]; done) | (simp [zc2, zc21]; done)) | fail)

set_option maxRecDepth 20000 in
set_option maxHeartbeats 4000000 in
theorem c_Coast_allReefs {l : Launch} {G : Gz} (hG : zI G) (σ : St) : MI l G y_Coast_allReefs prog_2_method_12_code 3 .int 2 [.ref (G.1 4)] σ (sm (fun c => cR σ (nI c)) (nC σ)) σ := by
  refine MI.of hG (by decide) (Nat.le_of_ble_eq_true rfl) (fun X hx hq => ?_)
  show J l G X 3 σ 0 [(0, .ref (G.1 4))] []
  refine j_iconst (v := 0) hx d_Coast_allReefs_0 (by decide) ?_
  refine j_istore_n hx [(1, .int 0), (0, .ref (G.1 4))] d_Coast_allReefs_1 rfl (by decide) rfl ?_
  refine j_iconst (v := 0) hx d_Coast_allReefs_2 (by decide) ?_
  refine j_istore_n hx [(2, .int 0), (1, .int 0), (0, .ref (G.1 4))] d_Coast_allReefs_3 rfl (by decide) rfl ?_
  have hl4 : ∀ (N9 : Nat) (i : Nat), (i ≤ (ct (cM σ 0))) → (ct (cM σ 0)) - i = N9 → J l G X 3 σ 4 [(0, .ref (G.1 4)), (1, .int (sm (fun c => cR σ (nI c)) i)), (2, .int (nI i))] [] := by
    intro N9
    induction N9 using Nat.strongRecOn with
    | _ N9 ih4 =>
      intro i hi_i hm4
      refine j_iload_n hx d_Coast_allReefs_4 rfl 2 rfl ?_
      refine j_aload_n hx d_Coast_allReefs_5 rfl 0 rfl ?_
      refine j_get hx ck_Coast 0 (by decide) t_82 (by decide) (sh_4 _ _) rfl d_Coast_allReefs_6 ?_
      refine j_iconst (v := 0) hx d_Coast_allReefs_9 (by decide) ?_
      refine j_callVi hx (c_Row_getA hG ir_5 6 rfl σ 0) mo_Row_get mv_Row_get t_484 (by decide) rfl (by decide) (sh_5 _ _) rfl rfl (Nat.le_of_ble_eq_true rfl) d_Coast_allReefs_10 ?_
      refine j_icmp_ge (tgt := 33) hx d_Coast_allReefs_13 (by decide) (fun zc13 => ?_) (fun zc13 => ?_)
      · skip
        obtain rfl := ct_end' hi_i zc13
        refine j_iload_n hx d_Coast_allReefs_33 rfl 1 rfl ?_
        exact j_iret hx hq rfl d_Coast_allReefs_34 (by first | (first | rfl | (simp only [zc13]; done) | (simp [zc13]; done)) | fail) (by first | (first | rfl | (simp only [zc13]; done) | (simp [zc13]; done)) | fail)
      · skip
        have hlt4 := ct_go hi_i zc13
        refine j_iload_n hx d_Coast_allReefs_16 rfl 1 rfl ?_
        refine j_aload_n hx d_Coast_allReefs_17 rfl 0 rfl ?_
        refine j_get hx ck_Coast 1 (by decide) t_89 (by decide) (sh_4 _ _) rfl d_Coast_allReefs_18 ?_
        refine j_iload_n hx d_Coast_allReefs_21 rfl 2 rfl ?_
        refine j_callVi hx (c_Row_getA hG ir_7 8 rfl σ (nI i)) mo_Row_get mv_Row_get t_484 (by decide) rfl (by decide) (sh_7 _ _) rfl rfl (Nat.le_of_ble_eq_true rfl) d_Coast_allReefs_22 ?_
        refine j_iadd hx d_Coast_allReefs_25 ?_
        refine j_istore_n hx [(1, .int ((sm (fun c => cR σ (nI c)) i) + (rg (σ (7 + 1)) 12 (nI i)))), (0, .ref (G.1 4)), (2, .int (nI i))] d_Coast_allReefs_26 rfl (by decide) rfl ?_
        refine j_iinc hx [(2, .int ((nI i) + 1)), (1, .int ((sm (fun c => cR σ (nI c)) i) + (rg (σ (7 + 1)) 12 (nI i)))), (0, .ref (G.1 4))] d_Coast_allReefs_27 2 rfl rfl (by decide) rfl ?_
        refine j_goto (tgt := 4) hx d_Coast_allReefs_30 (by decide) ?_
        refine J.lsub (ls' := [(0, .ref (G.1 4)), (1, .int ((sm (fun c => cR σ (nI c)) i) + (rg (σ (7 + 1)) 12 (nI i)))), (2, .int ((nI i) + 1))]) [2, 1, 0] rfl ?_
        refine J.to ?_ ?_ (ih4 _ ?_ (i + 1) hlt4 rfl)
        · first | (first | rfl | (simp [zc13]; done)) | fail
        · first | (simp only [nI_s, sm_s]) | fail
        · first | (omega) | fail
  refine J.lsub (ls' := [(0, .ref (G.1 4)), (1, .int 0), (2, .int 0)]) [2, 1, 0] rfl ?_
  refine J.to ?_ ?_ (hl4 _ 0 (Nat.zero_le _) rfl)
  · first | (first | rfl | (simp []; done)) | fail
  · first | (first | rfl | (simp only [nI_s]; done) | (simp only [nI_s, it_s]; done) | (simp [nI_s, it_s, ]; done)) | fail

set_option maxRecDepth 20000 in
set_option maxHeartbeats 4000000 in
theorem c_Coast_reefRowFrom {l : Launch} {G : Gz} (hG : zI G) (σ : St) (c : Int32) : MI l G y_Coast_reefRowFrom prog_2_method_14_code 4 .int 2 [.ref (G.1 4), .int c] σ (rrf σ c) σ := by
  refine MI.of hG (by decide) (Nat.le_of_ble_eq_true rfl) (fun X hx hq => ?_)
  show J l G X 4 σ 0 [(0, .ref (G.1 4)), (1, .int c)] []
  refine j_iconst (v := 0) hx d_Coast_reefRowFrom_0 (by decide) ?_
  refine j_istore_n hx [(2, .int 0), (0, .ref (G.1 4)), (1, .int c)] d_Coast_reefRowFrom_1 rfl (by decide) rfl ?_
  refine j_iload_n hx d_Coast_reefRowFrom_2 rfl 2 rfl ?_
  refine j_istore_n hx [(3, .int c), (2, .int 0), (0, .ref (G.1 4)), (1, .int c)] d_Coast_reefRowFrom_3 rfl (by decide) rfl ?_
  have hl4 : ∀ (N9 : Nat) (v p : Int32), (rv (cM σ 0) (rrP σ) (fun v _ => v + 1) v p = rrf σ c) → ((cM σ 0).toInt - p.toInt).toNat = N9 → J l G X 4 σ 4 [(0, .ref (G.1 4)), (1, .int c), (2, .int v), (3, .int p)] [] := by
    intro N9
    induction N9 using Nat.strongRecOn with
    | _ N9 ih4 =>
      intro v p hv hm4
      refine j_iload_n hx d_Coast_reefRowFrom_4 rfl 3 rfl ?_
      refine j_if_lt (tgt := 40) hx d_Coast_reefRowFrom_5 (by decide) (fun zc5 => ?_) (fun zc5 => ?_)
      · skip
        refine j_iload_n hx d_Coast_reefRowFrom_40 rfl 2 rfl ?_
        exact j_iret hx hq rfl d_Coast_reefRowFrom_41 (by first | (rw [← hv]; first | exact (rv_stop (ns_len zc17)).symm | exact (rv_stop (rr1 zc5)).symm | exact (rv_stop (rr2 zc28)).symm) | fail) (by first | (first | rfl | (simp only [zc5]; done) | (simp [zc5]; done)) | fail)
      · skip
        refine j_iload_n hx d_Coast_reefRowFrom_8 rfl 3 rfl ?_
        refine j_aload_n hx d_Coast_reefRowFrom_9 rfl 0 rfl ?_
        refine j_get hx ck_Coast 0 (by decide) t_82 (by decide) (sh_4 _ _) rfl d_Coast_reefRowFrom_10 ?_
        refine j_iconst (v := 0) hx d_Coast_reefRowFrom_13 (by decide) ?_
        refine j_callVi hx (c_Row_getA hG ir_5 6 rfl σ 0) mo_Row_get mv_Row_get t_484 (by decide) rfl (by decide) (sh_5 _ _) rfl rfl (Nat.le_of_ble_eq_true rfl) d_Coast_reefRowFrom_14 ?_
        refine j_icmp_ge (tgt := 40) hx d_Coast_reefRowFrom_17 (by decide) (fun zc17 => ?_) (fun zc17 => ?_)
        · skip
          refine j_iload_n hx d_Coast_reefRowFrom_40 rfl 2 rfl ?_
          exact j_iret hx hq rfl d_Coast_reefRowFrom_41 (by first | (rw [← hv]; first | exact (rv_stop (ns_len zc17)).symm | exact (rv_stop (rr1 zc5)).symm | exact (rv_stop (rr2 zc28)).symm) | fail) (by first | (first | rfl | (simp only [zc5, zc17]; done) | (simp [zc5, zc17]; done)) | fail)
        · skip
          refine j_aload_n hx d_Coast_reefRowFrom_20 rfl 0 rfl ?_
          refine j_get hx ck_Coast 1 (by decide) t_89 (by decide) (sh_4 _ _) rfl d_Coast_reefRowFrom_21 ?_
          refine j_iload_n hx d_Coast_reefRowFrom_24 rfl 3 rfl ?_
          refine j_callVi hx (c_Row_getA hG ir_7 8 rfl σ p) mo_Row_get mv_Row_get t_484 (by decide) rfl (by decide) (sh_7 _ _) rfl rfl (Nat.le_of_ble_eq_true rfl) d_Coast_reefRowFrom_25 ?_
          refine j_if_le (tgt := 40) hx d_Coast_reefRowFrom_28 (by decide) (fun zc28 => ?_) (fun zc28 => ?_)
          · skip
            refine j_iload_n hx d_Coast_reefRowFrom_40 rfl 2 rfl ?_
            exact j_iret hx hq rfl d_Coast_reefRowFrom_41 (by first | (rw [← hv]; first | exact (rv_stop (ns_len zc17)).symm | exact (rv_stop (rr1 zc5)).symm | exact (rv_stop (rr2 zc28)).symm) | fail) (by first | (first | rfl | (simp only [zc5, zc17, zc28]; done) | (simp [zc5, zc17, zc28]; done)) | fail)
          · skip
            refine j_iinc hx [(2, .int (v + 1)), (0, .ref (G.1 4)), (1, .int c), (3, .int p)] d_Coast_reefRowFrom_31 2 rfl rfl (by decide) rfl ?_
            refine j_iinc hx [(3, .int (p + 1)), (2, .int (v + 1)), (0, .ref (G.1 4)), (1, .int c)] d_Coast_reefRowFrom_34 3 rfl rfl (by decide) rfl ?_
            refine j_goto (tgt := 4) hx d_Coast_reefRowFrom_37 (by decide) ?_
            refine J.lsub (ls' := [(0, .ref (G.1 4)), (1, .int c), (2, .int (v + 1)), (3, .int (p + 1))]) [2, 3, 1, 0] rfl ?_
            refine J.to ?_ ?_ (ih4 _ ?_ (v + 1) (p + 1) (hv ▸ (rv_go (g := fun v _ => v + 1) (i_nle zc17) (rrP_t zc5 zc28)).symm) rfl)
            · first | (first | rfl | (simp [zc5, zc17, zc28]; done)) | fail
            · first | (rfl) | fail
            · first | (exact rn_dec (i_nle zc17) hm4) | fail
  refine J.lsub (ls' := [(0, .ref (G.1 4)), (1, .int c), (2, .int 0), (3, .int c)]) [2, 3, 1, 0] rfl ?_
  refine J.to ?_ ?_ (hl4 _ 0 c rfl rfl)
  · first | (first | rfl | (simp []; done)) | fail
  · first | (rfl) | fail

set_option maxRecDepth 20000 in
set_option maxHeartbeats 4000000 in
theorem c_Coast_longestReefFirst {l : Launch} {G : Gz} (hG : zI G) (σ : St) : MI l G y_Coast_longestReefFirst prog_2_method_13_code 5 .int 3 [.ref (G.1 4)] σ ((lrf σ (nC σ)).1) σ := by
  refine MI.of hG (by decide) (Nat.le_of_ble_eq_true rfl) (fun X hx hq => ?_)
  show J l G X 5 σ 0 [(0, .ref (G.1 4))] []
  refine j_iconst (v := (-1)) hx d_Coast_longestReefFirst_0 (by decide) ?_
  refine j_istore_n hx [(1, .int ((-1))), (0, .ref (G.1 4))] d_Coast_longestReefFirst_1 rfl (by decide) rfl ?_
  refine j_iconst (v := 0) hx d_Coast_longestReefFirst_2 (by decide) ?_
  refine j_istore_n hx [(2, .int 0), (1, .int ((-1))), (0, .ref (G.1 4))] d_Coast_longestReefFirst_3 rfl (by decide) rfl ?_
  refine j_iconst (v := 0) hx d_Coast_longestReefFirst_4 (by decide) ?_
  refine j_istore_n hx [(3, .int 0), (2, .int 0), (1, .int ((-1))), (0, .ref (G.1 4))] d_Coast_longestReefFirst_5 rfl (by decide) rfl ?_
  have hl6 : ∀ (N9 : Nat) (i : Nat), (i ≤ (ct (cM σ 0))) → (ct (cM σ 0)) - i = N9 → J l G X 5 σ 6 [(0, .ref (G.1 4)), (1, .int ((lrf σ i).1)), (2, .int ((lrf σ i).2)), (3, .int (nI i))] [] := by
    intro N9
    induction N9 using Nat.strongRecOn with
    | _ N9 ih6 =>
      intro i hi_i hm6
      refine j_iload_n hx d_Coast_longestReefFirst_6 rfl 3 rfl ?_
      refine j_aload_n hx d_Coast_longestReefFirst_7 rfl 0 rfl ?_
      refine j_get hx ck_Coast 0 (by decide) t_82 (by decide) (sh_4 _ _) rfl d_Coast_longestReefFirst_8 ?_
      refine j_iconst (v := 0) hx d_Coast_longestReefFirst_11 (by decide) ?_
      refine j_callVi hx (c_Row_getA hG ir_5 6 rfl σ 0) mo_Row_get mv_Row_get t_484 (by decide) rfl (by decide) (sh_5 _ _) rfl rfl (Nat.le_of_ble_eq_true rfl) d_Coast_longestReefFirst_12 ?_
      refine j_icmp_ge (tgt := 42) hx d_Coast_longestReefFirst_15 (by decide) (fun zc15 => ?_) (fun zc15 => ?_)
      · skip
        obtain rfl := ct_end' hi_i zc15
        refine j_iload_n hx d_Coast_longestReefFirst_42 rfl 1 rfl ?_
        exact j_iret hx hq rfl d_Coast_longestReefFirst_43 (by first | (first | rfl | (simp only [zc15]; done) | (simp [zc15]; done)) | fail) (by first | (first | rfl | (simp only [zc15]; done) | (simp [zc15]; done)) | fail)
      · skip
        have hlt6 := ct_go hi_i zc15
        refine j_aload_n hx d_Coast_longestReefFirst_18 rfl 0 rfl ?_
        refine j_iload_n hx d_Coast_longestReefFirst_19 rfl 3 rfl ?_
        refine j_callVi hx (c_Coast_reefRowFrom hG σ (nI i)) mo_Coast_reefRowFrom mv_Coast_reefRowFrom t_1320 (by decide) rfl (by decide) (sh_4 _ _) rfl rfl (Nat.le_of_ble_eq_true rfl) d_Coast_longestReefFirst_20 ?_
        refine j_istore hx [(4, .int (rrf σ (nI i))), (0, .ref (G.1 4)), (1, .int ((lrf σ i).1)), (2, .int ((lrf σ i).2)), (3, .int (nI i))] d_Coast_longestReefFirst_23 (by decide) rfl ?_
        refine j_iload hx d_Coast_longestReefFirst_25 0 rfl ?_
        refine j_iload_n hx d_Coast_longestReefFirst_27 rfl 3 rfl ?_
        refine j_icmp_le (tgt := 36) hx d_Coast_longestReefFirst_28 (by decide) (fun zc28 => ?_) (fun zc28 => ?_)
        · skip
          refine j_iinc hx [(3, .int ((nI i) + 1)), (4, .int (rrf σ (nI i))), (0, .ref (G.1 4)), (1, .int ((lrf σ i).1)), (2, .int ((lrf σ i).2))] d_Coast_longestReefFirst_36 4 rfl rfl (by decide) rfl ?_
          refine j_goto (tgt := 6) hx d_Coast_longestReefFirst_39 (by decide) ?_
          refine J.lsub (ls' := [(0, .ref (G.1 4)), (1, .int ((lrf σ i).1)), (2, .int ((lrf σ i).2)), (3, .int ((nI i) + 1))]) [2, 3, 4, 0] rfl ?_
          refine J.to ?_ ?_ (ih6 _ ?_ (i + 1) hlt6 rfl)
          · first | (first | rfl | (simp [zc15, zc28]; done)) | fail
          · first | (first | (rw [show lrf σ (i + 1) = (nI i, rrf σ (nI i)) from if_pos (i_nle zc28)]; simp only [nI_s]; done) | (rw [show lrf σ (i + 1) = lrf σ i from if_neg (i_lelt zc28)]; simp only [nI_s]; done)) | fail
          · first | (omega) | fail
        · skip
          refine j_iload_n hx d_Coast_longestReefFirst_31 rfl 4 rfl ?_
          refine j_istore_n hx [(1, .int (nI i)), (4, .int (rrf σ (nI i))), (0, .ref (G.1 4)), (2, .int ((lrf σ i).2)), (3, .int (nI i))] d_Coast_longestReefFirst_32 rfl (by decide) rfl ?_
          refine j_iload hx d_Coast_longestReefFirst_33 1 rfl ?_
          refine j_istore_n hx [(2, .int (rrf σ (nI i))), (1, .int (nI i)), (4, .int (rrf σ (nI i))), (0, .ref (G.1 4)), (3, .int (nI i))] d_Coast_longestReefFirst_35 rfl (by decide) rfl ?_
          refine j_iinc hx [(3, .int ((nI i) + 1)), (2, .int (rrf σ (nI i))), (1, .int (nI i)), (4, .int (rrf σ (nI i))), (0, .ref (G.1 4))] d_Coast_longestReefFirst_36 4 rfl rfl (by decide) rfl ?_
          refine j_goto (tgt := 6) hx d_Coast_longestReefFirst_39 (by decide) ?_
          refine J.lsub (ls' := [(0, .ref (G.1 4)), (1, .int (nI i)), (2, .int (rrf σ (nI i))), (3, .int ((nI i) + 1))]) [4, 2, 1, 0] rfl ?_
          refine J.to ?_ ?_ (ih6 _ ?_ (i + 1) hlt6 rfl)
          · first | (first | rfl | (simp [zc15, zc28]; done)) | fail
          · first | (first | (rw [show lrf σ (i + 1) = (nI i, rrf σ (nI i)) from if_pos (i_nle zc28)]; simp only [nI_s]; done) | (rw [show lrf σ (i + 1) = lrf σ i from if_neg (i_lelt zc28)]; simp only [nI_s]; done)) | fail
          · first | (omega) | fail
  refine J.lsub (ls' := [(0, .ref (G.1 4)), (1, .int ((-1))), (2, .int 0), (3, .int 0)]) [3, 2, 1, 0] rfl ?_
  refine J.to ?_ ?_ (hl6 _ 0 (Nat.zero_le _) rfl)
  · first | (first | rfl | (simp []; done)) | fail
  · first | (first | rfl | (simp only [nI_s]; done) | (simp only [nI_s, it_s]; done) | (simp [nI_s, it_s, ]; done)) | fail

set_option maxRecDepth 20000 in
set_option maxHeartbeats 4000000 in
theorem c_Coast_carriersHave {l : Launch} {G : Gz} (hG : zI G) (σ : St) (t : Int32) (h : Int32) : MI l G y_Coast_carriersHave prog_2_method_15_code 3 .int 2 [.ref (G.1 4), .int t, .int h] σ (chv σ t h) σ := by
  refine MI.of hG (by decide) (Nat.le_of_ble_eq_true rfl) (fun X hx hq => ?_)
  show J l G X 3 σ 0 [(0, .ref (G.1 4)), (1, .int t), (2, .int h)] []
  refine j_iload_n hx d_Coast_carriersHave_0 rfl 1 rfl ?_
  refine j_iload_n hx d_Coast_carriersHave_1 rfl 2 rfl ?_
  refine j_isub hx d_Coast_carriersHave_2 ?_
  refine j_mabs hx t_1251 (by decide) (Nat.le_of_ble_eq_true rfl) d_Coast_carriersHave_3 ?_
  refine j_iconst (v := 1) hx d_Coast_carriersHave_6 (by decide) ?_
  refine j_icmp_gt (tgt := 15) hx d_Coast_carriersHave_7 (by decide) (fun zc7 => ?_) (fun zc7 => ?_)
  · skip
    refine j_aload_n hx d_Coast_carriersHave_15 rfl 0 rfl ?_
    refine j_get hx ck_Coast 1 (by decide) t_89 (by decide) (sh_4 _ _) rfl d_Coast_carriersHave_16 ?_
    refine j_iload_n hx d_Coast_carriersHave_19 rfl 1 rfl ?_
    refine j_callVi hx (c_Row_getA hG ir_7 8 rfl σ t) mo_Row_get mv_Row_get t_484 (by decide) rfl (by decide) (sh_7 _ _) rfl rfl (Nat.le_of_ble_eq_true rfl) d_Coast_carriersHave_20 ?_
    exact j_iret hx hq rfl d_Coast_carriersHave_23 (by first | (first | exact (if_pos (c := ab (t - h) ≤ 1) (i_nlt zc7)).symm | exact (if_neg (c := ab (t - h) ≤ 1) (i_ltle zc7)).symm) | fail) (by first | (first | rfl | (simp only [zc7]; done) | (simp [zc7]; done)) | fail)
  · skip
    refine j_bipush (v := (-3)) hx d_Coast_carriersHave_10 (by decide) ?_
    refine j_goto (tgt := 23) hx d_Coast_carriersHave_12 (by decide) ?_
    exact j_iret hx hq rfl d_Coast_carriersHave_23 (by first | (first | exact (if_pos (c := ab (t - h) ≤ 1) (i_nlt zc7)).symm | exact (if_neg (c := ab (t - h) ≤ 1) (i_ltle zc7)).symm) | fail) (by first | (first | rfl | (simp only [zc7]; done) | (simp [zc7]; done)) | fail)

set_option maxRecDepth 20000 in
set_option maxHeartbeats 4000000 in
theorem c_Coast_isRest {l : Launch} {G : Gz} (hG : zI G) (σ : St) (t : Int32) (h : Int32) : MI l G y_Coast_isRest prog_2_method_18_code 7 .boolean 3 [.ref (G.1 4), .int t, .int h] σ (b2 (isr σ t h)) σ := by
  refine MI.of hG (by decide) (Nat.le_of_ble_eq_true rfl) (fun X hx hq => ?_)
  show J l G X 7 σ 0 [(0, .ref (G.1 4)), (1, .int t), (2, .int h)] []
  refine j_aload_n hx d_Coast_isRest_0 rfl 0 rfl ?_
  refine j_get hx ck_Coast 1 (by decide) t_89 (by decide) (sh_4 _ _) rfl d_Coast_isRest_1 ?_
  refine j_iload_n hx d_Coast_isRest_4 rfl 1 rfl ?_
  refine j_callVi hx (c_Row_getA hG ir_7 8 rfl σ t) mo_Row_get mv_Row_get t_484 (by decide) rfl (by decide) (sh_7 _ _) rfl rfl (Nat.le_of_ble_eq_true rfl) d_Coast_isRest_5 ?_
  refine j_if_ne (tgt := 13) hx d_Coast_isRest_8 (by decide) (fun zc8 => ?_) (fun zc8 => ?_)
  · skip
    refine j_aload_n hx d_Coast_isRest_13 rfl 0 rfl ?_
    refine j_iload_n hx d_Coast_isRest_14 rfl 1 rfl ?_
    refine j_iload_n hx d_Coast_isRest_15 rfl 2 rfl ?_
    refine j_callVi hx (c_Coast_carriersHave hG σ t h) mo_Coast_carriersHave mv_Coast_carriersHave t_1247 (by decide) rfl (by decide) (sh_4 _ _) rfl rfl (Nat.le_of_ble_eq_true rfl) d_Coast_isRest_16 ?_
    refine j_istore_n hx [(3, .int (chv σ t h)), (0, .ref (G.1 4)), (1, .int t), (2, .int h)] d_Coast_isRest_19 rfl (by decide) rfl ?_
    refine j_iconst (v := 0) hx d_Coast_isRest_20 (by decide) ?_
    refine j_istore hx [(4, .int 0), (3, .int (chv σ t h)), (0, .ref (G.1 4)), (1, .int t), (2, .int h)] d_Coast_isRest_21 (by decide) rfl ?_
    have hl23 : ∀ (N9 : Nat) (i : Nat), (i ≤ ct (cM σ 0)) → (∀ c, c < i → ¬ rbad σ t h c) → (ct (cM σ 0)) - i = N9 → J l G X 7 σ 23 [(0, .ref (G.1 4)), (1, .int t), (2, .int h), (3, .int (chv σ t h)), (4, .int (nI i))] [] := by
      intro N9
      induction N9 using Nat.strongRecOn with
      | _ N9 ih23 =>
        intro i hi_i hb hm23
        refine j_iload hx d_Coast_isRest_23 4 rfl ?_
        refine j_aload_n hx d_Coast_isRest_25 rfl 0 rfl ?_
        refine j_get hx ck_Coast 0 (by decide) t_82 (by decide) (sh_4 _ _) rfl d_Coast_isRest_26 ?_
        refine j_iconst (v := 0) hx d_Coast_isRest_29 (by decide) ?_
        refine j_callVi hx (c_Row_getA hG ir_5 6 rfl σ 0) mo_Row_get mv_Row_get t_484 (by decide) rfl (by decide) (sh_5 _ _) rfl rfl (Nat.le_of_ble_eq_true rfl) d_Coast_isRest_30 ?_
        refine j_icmp_ge (tgt := 102) hx d_Coast_isRest_33 (by decide) (fun zc33 => ?_) (fun zc33 => ?_)
        · skip
          obtain rfl := ct_end' hi_i zc33
          refine j_iconst (v := 1) hx d_Coast_isRest_102 (by decide) ?_
          exact j_iret hx hq rfl d_Coast_isRest_103 (by first | (first | exact (b2_f (p := isr σ t h) (fun z => z.1 zc8)).symm | exact (b2_t (p := isr σ t h) ⟨zc8, hb⟩).symm | exact (b2_f (p := isr σ t h) (fun z => z.2 i hlt23 (Or.inl ⟨i_nle zc45, i_nle zc56⟩))).symm | exact (b2_f (p := isr σ t h) (fun z => z.2 i hlt23 (Or.inr (i_nle zc74)))).symm) | fail) (by first | (first | rfl | (simp only [zc8, zc33]; done) | (simp [zc8, zc33]; done)) | fail)
        · skip
          have hlt23 := ct_go hi_i zc33
          refine j_aload_n hx d_Coast_isRest_36 rfl 0 rfl ?_
          refine j_get hx ck_Coast 1 (by decide) t_89 (by decide) (sh_4 _ _) rfl d_Coast_isRest_37 ?_
          refine j_iload hx d_Coast_isRest_40 4 rfl ?_
          refine j_callVi hx (c_Row_getA hG ir_7 8 rfl σ (nI i)) mo_Row_get mv_Row_get t_484 (by decide) rfl (by decide) (sh_7 _ _) rfl rfl (Nat.le_of_ble_eq_true rfl) d_Coast_isRest_42 ?_
          refine j_if_le (tgt := 63) hx d_Coast_isRest_45 (by decide) (fun zc45 => ?_) (fun zc45 => ?_)
          · skip
            refine j_iconst (v := 0) hx d_Coast_isRest_63 (by decide) ?_
            refine j_istore hx [(5, .int 0), (0, .ref (G.1 4)), (1, .int t), (2, .int h), (3, .int (chv σ t h)), (4, .int (nI i))] d_Coast_isRest_64 (by decide) rfl ?_
            refine j_aload_n hx d_Coast_isRest_66 rfl 1 rfl ?_
            refine j_iload_n hx d_Coast_isRest_67 rfl 2 rfl ?_
            refine j_iload hx d_Coast_isRest_68 5 rfl ?_
            refine j_callVi hx (c_Coast_carriersHave hG σ t (nI i)) mo_Coast_carriersHave mv_Coast_carriersHave t_1247 (by decide) rfl (by decide) (sh_4 _ _) rfl rfl (Nat.le_of_ble_eq_true rfl) d_Coast_isRest_70 ?_
            refine j_iload_n hx d_Coast_isRest_73 rfl 4 rfl ?_
            refine j_icmp_ge (tgt := 81) hx d_Coast_isRest_74 (by decide) (fun zc74 => ?_) (fun zc74 => ?_)
            · skip
              refine j_iconst (v := 0) hx d_Coast_isRest_81 (by decide) ?_
              refine j_istore hx [(6, .int 0), (5, .int 0), (0, .ref (G.1 4)), (1, .int t), (2, .int h), (3, .int (chv σ t h)), (4, .int (nI i))] d_Coast_isRest_82 (by decide) rfl ?_
              refine j_iload hx d_Coast_isRest_84 1 rfl ?_
              refine j_if_ne (tgt := 94) hx d_Coast_isRest_86 (by decide) (fun zc86 => absurd rfl zc86) (fun _ => ?_)
              refine j_iload hx d_Coast_isRest_89 0 rfl ?_
              refine j_if_eq (tgt := 96) hx d_Coast_isRest_91 (by decide) (fun _ => ?_) (fun zc91 => absurd (by decide) zc91)
              refine j_iinc hx [(4, .int ((nI i) + 1)), (6, .int 0), (5, .int 0), (0, .ref (G.1 4)), (1, .int t), (2, .int h), (3, .int (chv σ t h))] d_Coast_isRest_96 6 rfl rfl (by decide) rfl ?_
              refine j_goto (tgt := 23) hx d_Coast_isRest_99 (by decide) ?_
              refine J.lsub (ls' := [(0, .ref (G.1 4)), (1, .int t), (2, .int h), (3, .int (chv σ t h)), (4, .int ((nI i) + 1))]) [3, 4, 5, 6, 0] rfl ?_
              refine J.to ?_ ?_ (ih23 _ ?_ (i + 1) hlt23 (all_s hb (by first | exact (fun z => z.elim (fun q => i_ltle q.2 (i_nlt9 zc56)) (fun q => i_ltle q zc74)) | exact (fun z => z.elim (fun q => i_lelt zc56 q.2) (fun q => i_lelt zc74 q)) | exact (fun z => z.elim (fun q => i_lelt zc45 q.1) (fun q => i_lelt zc74 q)))) rfl)
              · first | (first | rfl | (simp [zc8, zc33, zc45, zc74]; done)) | fail
              · first | (simp only [nI_s]) | fail
              · first | (omega) | fail
            · skip
              refine j_iconst (v := 1) hx d_Coast_isRest_77 (by decide) ?_
              refine j_goto (tgt := 82) hx d_Coast_isRest_78 (by decide) ?_
              refine j_istore hx [(6, .int 1), (5, .int 0), (0, .ref (G.1 4)), (1, .int t), (2, .int h), (3, .int (chv σ t h)), (4, .int (nI i))] d_Coast_isRest_82 (by decide) rfl ?_
              refine j_iload hx d_Coast_isRest_84 1 rfl ?_
              refine j_if_ne (tgt := 94) hx d_Coast_isRest_86 (by decide) (fun zc86 => absurd rfl zc86) (fun _ => ?_)
              refine j_iload hx d_Coast_isRest_89 0 rfl ?_
              refine j_if_eq (tgt := 96) hx d_Coast_isRest_91 (by decide) (fun zc91 => absurd zc91 (by decide)) (fun _ => ?_)
              refine j_iconst (v := 0) hx d_Coast_isRest_94 (by decide) ?_
              exact j_iret hx hq rfl d_Coast_isRest_95 (by first | (first | exact (b2_f (p := isr σ t h) (fun z => z.1 zc8)).symm | exact (b2_t (p := isr σ t h) ⟨zc8, hb⟩).symm | exact (b2_f (p := isr σ t h) (fun z => z.2 i hlt23 (Or.inl ⟨i_nle zc45, i_nle zc56⟩))).symm | exact (b2_f (p := isr σ t h) (fun z => z.2 i hlt23 (Or.inr (i_nle zc74)))).symm) | fail) (by first | (first | rfl | (simp only [zc8, zc33, zc45, zc74]; done) | (simp [zc8, zc33, zc45, zc74]; done)) | fail)
          · skip
            refine j_aload_n hx d_Coast_isRest_48 rfl 0 rfl ?_
            refine j_iload hx d_Coast_isRest_49 4 rfl ?_
            refine j_iload_n hx d_Coast_isRest_51 rfl 2 rfl ?_
            refine j_callVi hx (c_Coast_carriersHave hG σ (nI i) h) mo_Coast_carriersHave mv_Coast_carriersHave t_1247 (by decide) rfl (by decide) (sh_4 _ _) rfl rfl (Nat.le_of_ble_eq_true rfl) d_Coast_isRest_52 ?_
            refine j_iload_n hx d_Coast_isRest_55 rfl 3 rfl ?_
            refine j_icmp_le (tgt := 63) hx d_Coast_isRest_56 (by decide) (fun zc56 => ?_) (fun zc56 => ?_)
            · skip
              refine j_iconst (v := 0) hx d_Coast_isRest_63 (by decide) ?_
              refine j_istore hx [(5, .int 0), (0, .ref (G.1 4)), (1, .int t), (2, .int h), (3, .int (chv σ t h)), (4, .int (nI i))] d_Coast_isRest_64 (by decide) rfl ?_
              refine j_aload_n hx d_Coast_isRest_66 rfl 1 rfl ?_
              refine j_iload_n hx d_Coast_isRest_67 rfl 2 rfl ?_
              refine j_iload hx d_Coast_isRest_68 5 rfl ?_
              refine j_callVi hx (c_Coast_carriersHave hG σ t (nI i)) mo_Coast_carriersHave mv_Coast_carriersHave t_1247 (by decide) rfl (by decide) (sh_4 _ _) rfl rfl (Nat.le_of_ble_eq_true rfl) d_Coast_isRest_70 ?_
              refine j_iload_n hx d_Coast_isRest_73 rfl 4 rfl ?_
              refine j_icmp_ge (tgt := 81) hx d_Coast_isRest_74 (by decide) (fun zc74 => ?_) (fun zc74 => ?_)
              · skip
                refine j_iconst (v := 0) hx d_Coast_isRest_81 (by decide) ?_
                refine j_istore hx [(6, .int 0), (5, .int 0), (0, .ref (G.1 4)), (1, .int t), (2, .int h), (3, .int (chv σ t h)), (4, .int (nI i))] d_Coast_isRest_82 (by decide) rfl ?_
                refine j_iload hx d_Coast_isRest_84 1 rfl ?_
                refine j_if_ne (tgt := 94) hx d_Coast_isRest_86 (by decide) (fun zc86 => absurd rfl zc86) (fun _ => ?_)
                refine j_iload hx d_Coast_isRest_89 0 rfl ?_
                refine j_if_eq (tgt := 96) hx d_Coast_isRest_91 (by decide) (fun _ => ?_) (fun zc91 => absurd (by decide) zc91)
                refine j_iinc hx [(4, .int ((nI i) + 1)), (6, .int 0), (5, .int 0), (0, .ref (G.1 4)), (1, .int t), (2, .int h), (3, .int (chv σ t h))] d_Coast_isRest_96 6 rfl rfl (by decide) rfl ?_
                refine j_goto (tgt := 23) hx d_Coast_isRest_99 (by decide) ?_
                refine J.lsub (ls' := [(0, .ref (G.1 4)), (1, .int t), (2, .int h), (3, .int (chv σ t h)), (4, .int ((nI i) + 1))]) [3, 4, 5, 6, 0] rfl ?_
                refine J.to ?_ ?_ (ih23 _ ?_ (i + 1) hlt23 (all_s hb (by first | exact (fun z => z.elim (fun q => i_ltle q.2 (i_nlt9 zc56)) (fun q => i_ltle q zc74)) | exact (fun z => z.elim (fun q => i_lelt zc56 q.2) (fun q => i_lelt zc74 q)) | exact (fun z => z.elim (fun q => i_lelt zc45 q.1) (fun q => i_lelt zc74 q)))) rfl)
                · first | (first | rfl | (simp [zc8, zc33, zc45, zc56, zc74]; done)) | fail
                · first | (simp only [nI_s]) | fail
                · first | (omega) | fail
              · skip
                refine j_iconst (v := 1) hx d_Coast_isRest_77 (by decide) ?_
                refine j_goto (tgt := 82) hx d_Coast_isRest_78 (by decide) ?_
                refine j_istore hx [(6, .int 1), (5, .int 0), (0, .ref (G.1 4)), (1, .int t), (2, .int h), (3, .int (chv σ t h)), (4, .int (nI i))] d_Coast_isRest_82 (by decide) rfl ?_
                refine j_iload hx d_Coast_isRest_84 1 rfl ?_
                refine j_if_ne (tgt := 94) hx d_Coast_isRest_86 (by decide) (fun zc86 => absurd rfl zc86) (fun _ => ?_)
                refine j_iload hx d_Coast_isRest_89 0 rfl ?_
                refine j_if_eq (tgt := 96) hx d_Coast_isRest_91 (by decide) (fun zc91 => absurd zc91 (by decide)) (fun _ => ?_)
                refine j_iconst (v := 0) hx d_Coast_isRest_94 (by decide) ?_
                exact j_iret hx hq rfl d_Coast_isRest_95 (by first | (first | exact (b2_f (p := isr σ t h) (fun z => z.1 zc8)).symm | exact (b2_t (p := isr σ t h) ⟨zc8, hb⟩).symm | exact (b2_f (p := isr σ t h) (fun z => z.2 i hlt23 (Or.inl ⟨i_nle zc45, i_nle zc56⟩))).symm | exact (b2_f (p := isr σ t h) (fun z => z.2 i hlt23 (Or.inr (i_nle zc74)))).symm) | fail) (by first | (first | rfl | (simp only [zc8, zc33, zc45, zc56, zc74]; done) | (simp [zc8, zc33, zc45, zc56, zc74]; done)) | fail)
            · skip
              refine j_iconst (v := 1) hx d_Coast_isRest_59 (by decide) ?_
              refine j_goto (tgt := 64) hx d_Coast_isRest_60 (by decide) ?_
              refine j_istore hx [(5, .int 1), (0, .ref (G.1 4)), (1, .int t), (2, .int h), (3, .int (chv σ t h)), (4, .int (nI i))] d_Coast_isRest_64 (by decide) rfl ?_
              refine j_aload_n hx d_Coast_isRest_66 rfl 1 rfl ?_
              refine j_iload_n hx d_Coast_isRest_67 rfl 2 rfl ?_
              refine j_iload hx d_Coast_isRest_68 5 rfl ?_
              refine j_callVi hx (c_Coast_carriersHave hG σ t (nI i)) mo_Coast_carriersHave mv_Coast_carriersHave t_1247 (by decide) rfl (by decide) (sh_4 _ _) rfl rfl (Nat.le_of_ble_eq_true rfl) d_Coast_isRest_70 ?_
              refine j_iload_n hx d_Coast_isRest_73 rfl 4 rfl ?_
              refine j_icmp_ge (tgt := 81) hx d_Coast_isRest_74 (by decide) (fun zc74 => ?_) (fun zc74 => ?_)
              · skip
                refine j_iconst (v := 0) hx d_Coast_isRest_81 (by decide) ?_
                refine j_istore hx [(6, .int 0), (5, .int 1), (0, .ref (G.1 4)), (1, .int t), (2, .int h), (3, .int (chv σ t h)), (4, .int (nI i))] d_Coast_isRest_82 (by decide) rfl ?_
                refine j_iload hx d_Coast_isRest_84 1 rfl ?_
                refine j_if_ne (tgt := 94) hx d_Coast_isRest_86 (by decide) (fun _ => ?_) (fun zc86 => absurd zc86 (by decide))
                refine j_iconst (v := 0) hx d_Coast_isRest_94 (by decide) ?_
                exact j_iret hx hq rfl d_Coast_isRest_95 (by first | (first | exact (b2_f (p := isr σ t h) (fun z => z.1 zc8)).symm | exact (b2_t (p := isr σ t h) ⟨zc8, hb⟩).symm | exact (b2_f (p := isr σ t h) (fun z => z.2 i hlt23 (Or.inl ⟨i_nle zc45, i_nle zc56⟩))).symm | exact (b2_f (p := isr σ t h) (fun z => z.2 i hlt23 (Or.inr (i_nle zc74)))).symm) | fail) (by first | (first | rfl | (simp only [zc8, zc33, zc45, zc56, zc74]; done) | (simp [zc8, zc33, zc45, zc56, zc74]; done)) | fail)
              · skip
                refine j_iconst (v := 1) hx d_Coast_isRest_77 (by decide) ?_
                refine j_goto (tgt := 82) hx d_Coast_isRest_78 (by decide) ?_
                refine j_istore hx [(6, .int 1), (5, .int 1), (0, .ref (G.1 4)), (1, .int t), (2, .int h), (3, .int (chv σ t h)), (4, .int (nI i))] d_Coast_isRest_82 (by decide) rfl ?_
                refine j_iload hx d_Coast_isRest_84 1 rfl ?_
                refine j_if_ne (tgt := 94) hx d_Coast_isRest_86 (by decide) (fun _ => ?_) (fun zc86 => absurd zc86 (by decide))
                refine j_iconst (v := 0) hx d_Coast_isRest_94 (by decide) ?_
                exact j_iret hx hq rfl d_Coast_isRest_95 (by first | (first | exact (b2_f (p := isr σ t h) (fun z => z.1 zc8)).symm | exact (b2_t (p := isr σ t h) ⟨zc8, hb⟩).symm | exact (b2_f (p := isr σ t h) (fun z => z.2 i hlt23 (Or.inl ⟨i_nle zc45, i_nle zc56⟩))).symm | exact (b2_f (p := isr σ t h) (fun z => z.2 i hlt23 (Or.inr (i_nle zc74)))).symm) | fail) (by first | (first | rfl | (simp only [zc8, zc33, zc45, zc56, zc74]; done) | (simp [zc8, zc33, zc45, zc56, zc74]; done)) | fail)
    refine J.lsub (ls' := [(0, .ref (G.1 4)), (1, .int t), (2, .int h), (3, .int (chv σ t h)), (4, .int 0)]) [2, 3, 4, 1, 0] rfl ?_
    refine J.to ?_ ?_ (hl23 _ 0 (Nat.zero_le _) (fun c h => absurd h (Nat.not_lt_zero c)) rfl)
    · first | (first | rfl | (simp [zc8]; done)) | fail
    · first | (first | rfl | (simp only [nI_s]; done) | (simp only [nI_s, it_s]; done) | (simp [nI_s, it_s, zc8]; done)) | fail
  · skip
    refine j_iconst (v := 0) hx d_Coast_isRest_11 (by decide) ?_
    exact j_iret hx hq rfl d_Coast_isRest_12 (by first | (first | exact (b2_f (p := isr σ t h) (fun z => z.1 zc8)).symm | exact (b2_t (p := isr σ t h) ⟨zc8, hb⟩).symm | exact (b2_f (p := isr σ t h) (fun z => z.2 i hlt23 (Or.inl ⟨i_nle zc45, i_nle zc56⟩))).symm | exact (b2_f (p := isr σ t h) (fun z => z.2 i hlt23 (Or.inr (i_nle zc74)))).symm) | fail) (by first | (first | rfl | (simp only [zc8]; done) | (simp [zc8]; done)) | fail)

set_option maxRecDepth 20000 in
set_option maxHeartbeats 4000000 in
theorem c_Coast_rests {l : Launch} {G : Gz} (hG : zI G) (σ : St) : MI l G y_Coast_rests prog_2_method_16_code 4 .int 4 [.ref (G.1 4)] σ (rsT σ (nC σ)) σ := by
  refine MI.of hG (by decide) (Nat.le_of_ble_eq_true rfl) (fun X hx hq => ?_)
  show J l G X 4 σ 0 [(0, .ref (G.1 4))] []
  refine j_iconst (v := 0) hx d_Coast_rests_0 (by decide) ?_
  refine j_istore_n hx [(1, .int 0), (0, .ref (G.1 4))] d_Coast_rests_1 rfl (by decide) rfl ?_
  refine j_iconst (v := 0) hx d_Coast_rests_2 (by decide) ?_
  refine j_istore_n hx [(2, .int 0), (1, .int 0), (0, .ref (G.1 4))] d_Coast_rests_3 rfl (by decide) rfl ?_
  have hl4 : ∀ (N9 : Nat) (i : Nat), (i ≤ (ct (cM σ 0))) → (ct (cM σ 0)) - i = N9 → J l G X 4 σ 4 [(0, .ref (G.1 4)), (1, .int (rsT σ i)), (2, .int (nI i))] [] := by
    intro N9
    induction N9 using Nat.strongRecOn with
    | _ N9 ih4 =>
      intro i hi_i hm4
      refine j_iload_n hx d_Coast_rests_4 rfl 2 rfl ?_
      refine j_aload_n hx d_Coast_rests_5 rfl 0 rfl ?_
      refine j_get hx ck_Coast 0 (by decide) t_82 (by decide) (sh_4 _ _) rfl d_Coast_rests_6 ?_
      refine j_iconst (v := 0) hx d_Coast_rests_9 (by decide) ?_
      refine j_callVi hx (c_Row_getA hG ir_5 6 rfl σ 0) mo_Row_get mv_Row_get t_484 (by decide) rfl (by decide) (sh_5 _ _) rfl rfl (Nat.le_of_ble_eq_true rfl) d_Coast_rests_10 ?_
      refine j_icmp_ge (tgt := 59) hx d_Coast_rests_13 (by decide) (fun zc13 => ?_) (fun zc13 => ?_)
      · skip
        obtain rfl := ct_end' hi_i zc13
        refine j_iload_n hx d_Coast_rests_59 rfl 1 rfl ?_
        exact j_iret hx hq rfl d_Coast_rests_60 (by first | (first | rfl | (simp only [zc13]; done) | (simp [zc13]; done)) | fail) (by first | (first | rfl | (simp only [zc13]; done) | (simp [zc13]; done)) | fail)
      · skip
        have hlt4 := ct_go hi_i zc13
        refine j_iconst (v := 0) hx d_Coast_rests_16 (by decide) ?_
        refine j_istore_n hx [(3, .int 0), (0, .ref (G.1 4)), (1, .int (rsT σ i)), (2, .int (nI i))] d_Coast_rests_17 rfl (by decide) rfl ?_
        have hl18 : ∀ (N9 : Nat) (j : Nat), (j ≤ (ct (cM σ 0))) → (ct (cM σ 0)) - j = N9 → J l G X 4 σ 18 [(0, .ref (G.1 4)), (1, .int (it (fun h a => a + b2 (isr σ (nI i) (nI h))) (rsT σ i) j)), (2, .int (nI i)), (3, .int (nI j))] [] := by
          intro N9
          induction N9 using Nat.strongRecOn with
          | _ N9 ih18 =>
            intro j hi_j hm18
            refine j_iload_n hx d_Coast_rests_18 rfl 3 rfl ?_
            refine j_aload_n hx d_Coast_rests_19 rfl 0 rfl ?_
            refine j_get hx ck_Coast 0 (by decide) t_82 (by decide) (sh_4 _ _) rfl d_Coast_rests_20 ?_
            refine j_iconst (v := 0) hx d_Coast_rests_23 (by decide) ?_
            refine j_callVi hx (c_Row_getA hG ir_5 6 rfl σ 0) mo_Row_get mv_Row_get t_484 (by decide) rfl (by decide) (sh_5 _ _) rfl rfl (Nat.le_of_ble_eq_true rfl) d_Coast_rests_24 ?_
            refine j_icmp_ge (tgt := 53) hx d_Coast_rests_27 (by decide) (fun zc27 => ?_) (fun zc27 => ?_)
            · skip
              obtain rfl := ct_end' hi_j zc27
              refine j_iinc hx [(2, .int ((nI i) + 1)), (0, .ref (G.1 4)), (1, .int (it (fun h a => a + b2 (isr σ (nI i) (nI h))) (rsT σ i) (ct (cM σ 0)))), (3, .int (nI (ct (cM σ 0))))] d_Coast_rests_53 2 rfl rfl (by decide) rfl ?_
              refine j_goto (tgt := 4) hx d_Coast_rests_56 (by decide) ?_
              refine J.lsub (ls' := [(0, .ref (G.1 4)), (1, .int (it (fun h a => a + b2 (isr σ (nI i) (nI h))) (rsT σ i) (ct (cM σ 0)))), (2, .int ((nI i) + 1))]) [1, 2, 0] rfl ?_
              refine J.to ?_ ?_ (ih4 _ ?_ (i + 1) hlt4 rfl)
              · first | (first | rfl | (simp [zc13, zc27]; done)) | fail
              · first | (simp only [nI_s]; rfl) | fail
              · first | (omega) | fail
            · skip
              have hlt18 := ct_go hi_j zc27
              refine j_iload_n hx d_Coast_rests_30 rfl 1 rfl ?_
              refine j_aload_n hx d_Coast_rests_31 rfl 0 rfl ?_
              refine j_iload_n hx d_Coast_rests_32 rfl 2 rfl ?_
              refine j_iload_n hx d_Coast_rests_33 rfl 3 rfl ?_
              refine j_callVi hx (c_Coast_isRest hG σ (nI i) (nI j)) mo_Coast_isRest mv_Coast_isRest t_1243 (by decide) rfl (by decide) (sh_4 _ _) rfl rfl (Nat.le_of_ble_eq_true rfl) d_Coast_rests_34 ?_
              refine j_if_eq (tgt := 44) hx d_Coast_rests_37 (by decide) (fun zc37 => ?_) (fun zc37 => ?_)
              · skip
                refine j_iconst (v := 0) hx d_Coast_rests_44 (by decide) ?_
                refine j_iadd hx d_Coast_rests_45 ?_
                refine j_istore_n hx [(1, .int ((it (fun h a => a + b2 (isr σ (nI i) (nI h))) (rsT σ i) j) + 0)), (0, .ref (G.1 4)), (2, .int (nI i)), (3, .int (nI j))] d_Coast_rests_46 rfl (by decide) rfl ?_
                refine j_iinc hx [(3, .int ((nI j) + 1)), (1, .int ((it (fun h a => a + b2 (isr σ (nI i) (nI h))) (rsT σ i) j) + 0)), (0, .ref (G.1 4)), (2, .int (nI i))] d_Coast_rests_47 3 rfl rfl (by decide) rfl ?_
                refine j_goto (tgt := 18) hx d_Coast_rests_50 (by decide) ?_
                refine J.lsub (ls' := [(0, .ref (G.1 4)), (1, .int ((it (fun h a => a + b2 (isr σ (nI i) (nI h))) (rsT σ i) j) + 0)), (2, .int (nI i)), (3, .int ((nI j) + 1))]) [2, 1, 3, 0] rfl ?_
                refine J.to ?_ ?_ (ih18 _ ?_ (j + 1) hlt18 rfl)
                · first | (first | rfl | (simp [zc13, zc27, zc37]; done)) | fail
                · first | (simp only [nI_s, it_s]; first | rw [zc37] | rw [b2_n0 zc37]) | fail
                · first | (omega) | fail
              · skip
                refine j_iconst (v := 1) hx d_Coast_rests_40 (by decide) ?_
                refine j_goto (tgt := 45) hx d_Coast_rests_41 (by decide) ?_
                refine j_iadd hx d_Coast_rests_45 ?_
                refine j_istore_n hx [(1, .int ((it (fun h a => a + b2 (isr σ (nI i) (nI h))) (rsT σ i) j) + 1)), (0, .ref (G.1 4)), (2, .int (nI i)), (3, .int (nI j))] d_Coast_rests_46 rfl (by decide) rfl ?_
                refine j_iinc hx [(3, .int ((nI j) + 1)), (1, .int ((it (fun h a => a + b2 (isr σ (nI i) (nI h))) (rsT σ i) j) + 1)), (0, .ref (G.1 4)), (2, .int (nI i))] d_Coast_rests_47 3 rfl rfl (by decide) rfl ?_
                refine j_goto (tgt := 18) hx d_Coast_rests_50 (by decide) ?_
                refine J.lsub (ls' := [(0, .ref (G.1 4)), (1, .int ((it (fun h a => a + b2 (isr σ (nI i) (nI h))) (rsT σ i) j) + 1)), (2, .int (nI i)), (3, .int ((nI j) + 1))]) [2, 1, 3, 0] rfl ?_
                refine J.to ?_ ?_ (ih18 _ ?_ (j + 1) hlt18 rfl)
                · first | (first | rfl | (simp [zc13, zc27, zc37]; done)) | fail
                · first | (simp only [nI_s, it_s]; first | rw [zc37] | rw [b2_n0 zc37]) | fail
                · first | (omega) | fail
        refine J.lsub (ls' := [(0, .ref (G.1 4)), (1, .int (rsT σ i)), (2, .int (nI i)), (3, .int 0)]) [1, 2, 3, 0] rfl ?_
        refine J.to ?_ ?_ (hl18 _ 0 (Nat.zero_le _) rfl)
        · first | (first | rfl | (simp [zc13]; done)) | fail
        · first | (first | rfl | (simp only [nI_s]; done) | (simp only [nI_s, it_s]; done) | (simp [nI_s, it_s, zc13]; done)) | fail
  refine J.lsub (ls' := [(0, .ref (G.1 4)), (1, .int 0), (2, .int 0)]) [2, 1, 0] rfl ?_
  refine J.to ?_ ?_ (hl4 _ 0 (Nat.zero_le _) rfl)
  · first | (first | rfl | (simp []; done)) | fail
  · first | (first | rfl | (simp only [nI_s]; done) | (simp only [nI_s, it_s]; done) | (simp [nI_s, it_s, ]; done)) | fail

set_option maxRecDepth 20000 in
set_option maxHeartbeats 4000000 in
theorem c_Coast_firstRest {l : Launch} {G : Gz} (hG : zI G) (σ : St) : MI l G y_Coast_firstRest prog_2_method_17_code 3 .int 4 [.ref (G.1 4)] σ (frs σ) σ := by
  refine MI.of hG (by decide) (Nat.le_of_ble_eq_true rfl) (fun X hx hq => ?_)
  show J l G X 3 σ 0 [(0, .ref (G.1 4))] []
  refine j_iconst (v := 0) hx d_Coast_firstRest_0 (by decide) ?_
  refine j_istore_n hx [(1, .int 0), (0, .ref (G.1 4))] d_Coast_firstRest_1 rfl (by decide) rfl ?_
  have hl2 : ∀ (N9 : Nat) (i : Nat), (i ≤ ct (cM σ 0)) → (fnd (frT σ) i = none) → (ct (cM σ 0)) - i = N9 → J l G X 3 σ 2 [(0, .ref (G.1 4)), (1, .int (nI i))] [] := by
    intro N9
    induction N9 using Nat.strongRecOn with
    | _ N9 ih2 =>
      intro i hi_i hf hm2
      refine j_iload_n hx d_Coast_firstRest_2 rfl 1 rfl ?_
      refine j_aload_n hx d_Coast_firstRest_3 rfl 0 rfl ?_
      refine j_get hx ck_Coast 0 (by decide) t_82 (by decide) (sh_4 _ _) rfl d_Coast_firstRest_4 ?_
      refine j_iconst (v := 0) hx d_Coast_firstRest_7 (by decide) ?_
      refine j_callVi hx (c_Row_getA hG ir_5 6 rfl σ 0) mo_Row_get mv_Row_get t_484 (by decide) rfl (by decide) (sh_5 _ _) rfl rfl (Nat.le_of_ble_eq_true rfl) d_Coast_firstRest_8 ?_
      refine j_icmp_ge (tgt := 56) hx d_Coast_firstRest_11 (by decide) (fun zc11 => ?_) (fun zc11 => ?_)
      · skip
        obtain rfl := ct_end' hi_i zc11
        refine j_iconst (v := (-1)) hx d_Coast_firstRest_56 (by decide) ?_
        exact j_iret hx hq rfl d_Coast_firstRest_57 (by first | (first | (unfold frs; rw [hf]; rfl) | (unfold frs; rw [fnd_at hf (fnd_at hg (if_pos (by rw [b2_eq0, Decidable.not_not] at zc34; exact zc34)) hlt16) hlt2]; rfl)) | fail) (by first | (first | rfl | (simp only [zc11]; done) | (simp [zc11]; done)) | fail)
      · skip
        have hlt2 := ct_go hi_i zc11
        refine j_iconst (v := 0) hx d_Coast_firstRest_14 (by decide) ?_
        refine j_istore_n hx [(2, .int 0), (0, .ref (G.1 4)), (1, .int (nI i))] d_Coast_firstRest_15 rfl (by decide) rfl ?_
        have hl16 : ∀ (N9 : Nat) (j : Nat), (j ≤ ct (cM σ 0)) → (fnd (frH σ i) j = none) → (ct (cM σ 0)) - j = N9 → J l G X 3 σ 16 [(0, .ref (G.1 4)), (1, .int (nI i)), (2, .int (nI j))] [] := by
          intro N9
          induction N9 using Nat.strongRecOn with
          | _ N9 ih16 =>
            intro j hi_j hg hm16
            refine j_iload_n hx d_Coast_firstRest_16 rfl 2 rfl ?_
            refine j_aload_n hx d_Coast_firstRest_17 rfl 0 rfl ?_
            refine j_get hx ck_Coast 0 (by decide) t_82 (by decide) (sh_4 _ _) rfl d_Coast_firstRest_18 ?_
            refine j_iconst (v := 0) hx d_Coast_firstRest_21 (by decide) ?_
            refine j_callVi hx (c_Row_getA hG ir_5 6 rfl σ 0) mo_Row_get mv_Row_get t_484 (by decide) rfl (by decide) (sh_5 _ _) rfl rfl (Nat.le_of_ble_eq_true rfl) d_Coast_firstRest_22 ?_
            refine j_icmp_ge (tgt := 50) hx d_Coast_firstRest_25 (by decide) (fun zc25 => ?_) (fun zc25 => ?_)
            · skip
              obtain rfl := ct_end' hi_j zc25
              refine j_iinc hx [(1, .int ((nI i) + 1)), (0, .ref (G.1 4)), (2, .int (nI (ct (cM σ 0))))] d_Coast_firstRest_50 1 rfl rfl (by decide) rfl ?_
              refine j_goto (tgt := 2) hx d_Coast_firstRest_53 (by decide) ?_
              refine J.lsub (ls' := [(0, .ref (G.1 4)), (1, .int ((nI i) + 1))]) [1, 0] rfl ?_
              refine J.to ?_ ?_ (ih2 _ ?_ (i + 1) hlt2 ((fnd_s hf).trans hg) rfl)
              · first | (first | rfl | (simp [zc11, zc25]; done)) | fail
              · first | (simp only [nI_s]) | fail
              · first | (omega) | fail
            · skip
              have hlt16 := ct_go hi_j zc25
              refine j_aload_n hx d_Coast_firstRest_28 rfl 0 rfl ?_
              refine j_iload_n hx d_Coast_firstRest_29 rfl 1 rfl ?_
              refine j_iload_n hx d_Coast_firstRest_30 rfl 2 rfl ?_
              refine j_callVi hx (c_Coast_isRest hG σ (nI i) (nI j)) mo_Coast_isRest mv_Coast_isRest t_1243 (by decide) rfl (by decide) (sh_4 _ _) rfl rfl (Nat.le_of_ble_eq_true rfl) d_Coast_firstRest_31 ?_
              refine j_if_eq (tgt := 44) hx d_Coast_firstRest_34 (by decide) (fun zc34 => ?_) (fun zc34 => ?_)
              · skip
                refine j_iinc hx [(2, .int ((nI j) + 1)), (0, .ref (G.1 4)), (1, .int (nI i))] d_Coast_firstRest_44 2 rfl rfl (by decide) rfl ?_
                refine j_goto (tgt := 16) hx d_Coast_firstRest_47 (by decide) ?_
                refine J.lsub (ls' := [(0, .ref (G.1 4)), (1, .int (nI i)), (2, .int ((nI j) + 1))]) [1, 2, 0] rfl ?_
                refine J.to ?_ ?_ (ih16 _ ?_ (j + 1) hlt16 ((fnd_s hg).trans (if_neg (by rw [b2_eq0] at zc34; exact zc34))) rfl)
                · first | (first | rfl | (simp [zc11, zc25, zc34]; done)) | fail
                · first | (simp only [nI_s]) | fail
                · first | (omega) | fail
              · skip
                refine j_bipush (v := 100) hx d_Coast_firstRest_37 (by decide) ?_
                refine j_iload_n hx d_Coast_firstRest_39 rfl 1 rfl ?_
                refine j_imul hx d_Coast_firstRest_40 ?_
                refine j_iload_n hx d_Coast_firstRest_41 rfl 2 rfl ?_
                refine j_iadd hx d_Coast_firstRest_42 ?_
                exact j_iret hx hq rfl d_Coast_firstRest_43 (by first | (first | (unfold frs; rw [hf]; rfl) | (unfold frs; rw [fnd_at hf (fnd_at hg (if_pos (by rw [b2_eq0, Decidable.not_not] at zc34; exact zc34)) hlt16) hlt2]; rfl)) | fail) (by first | (first | rfl | (simp only [zc11, zc25, zc34]; done) | (simp [zc11, zc25, zc34]; done)) | fail)
        refine J.lsub (ls' := [(0, .ref (G.1 4)), (1, .int (nI i)), (2, .int 0)]) [1, 2, 0] rfl ?_
        refine J.to ?_ ?_ (hl16 _ 0 (Nat.zero_le _) rfl rfl)
        · first | (first | rfl | (simp [zc11]; done)) | fail
        · first | (first | rfl | (simp only [nI_s]; done) | (simp only [nI_s, it_s]; done) | (simp [nI_s, it_s, zc11]; done)) | fail
  refine J.lsub (ls' := [(0, .ref (G.1 4)), (1, .int 0)]) [1, 0] rfl ?_
  refine J.to ?_ ?_ (hl2 _ 0 (Nat.zero_le _) rfl rfl)
  · first | (first | rfl | (simp []; done)) | fail
  · first | (first | rfl | (simp only [nI_s]; done) | (simp only [nI_s, it_s]; done) | (simp [nI_s, it_s, ]; done)) | fail

set_option maxRecDepth 20000 in
set_option maxHeartbeats 4000000 in
theorem c_Coast_shareOf {l : Launch} {G : Gz} (hG : zI G) (σ : St) (door : Int32) (n : Int32) : MI l G y_Coast_shareOf prog_2_method_19_code 9 .int 2 [.ref (G.1 4), .int door, .int n] σ (shr σ door n) σ := by
  refine MI.of hG (by decide) (Nat.le_of_ble_eq_true rfl) (fun X hx hq => ?_)
  show J l G X 9 σ 0 [(0, .ref (G.1 4)), (1, .int door), (2, .int n)] []
  refine j_iconst (v := 0) hx d_Coast_shareOf_0 (by decide) ?_
  refine j_istore_n hx [(3, .int 0), (0, .ref (G.1 4)), (1, .int door), (2, .int n)] d_Coast_shareOf_1 rfl (by decide) rfl ?_
  refine j_iconst (v := 0) hx d_Coast_shareOf_2 (by decide) ?_
  refine j_istore hx [(4, .int 0), (3, .int 0), (0, .ref (G.1 4)), (1, .int door), (2, .int n)] d_Coast_shareOf_3 (by decide) rfl ?_
  have hl5 : ∀ (N9 : Nat) (i : Nat), (i ≤ (ct (cM σ 4))) → (ct (cM σ 4)) - i = N9 → J l G X 9 σ 5 [(0, .ref (G.1 4)), (1, .int door), (2, .int n), (3, .int (hds σ i)), (4, .int (nI i))] [] := by
    intro N9
    induction N9 using Nat.strongRecOn with
    | _ N9 ih5 =>
      intro i hi_i hm5
      refine j_iload hx d_Coast_shareOf_5 4 rfl ?_
      refine j_aload_n hx d_Coast_shareOf_7 rfl 0 rfl ?_
      refine j_get hx ck_Coast 0 (by decide) t_82 (by decide) (sh_4 _ _) rfl d_Coast_shareOf_8 ?_
      refine j_iconst (v := 4) hx d_Coast_shareOf_11 (by decide) ?_
      refine j_callVi hx (c_Row_getA hG ir_5 6 rfl σ 4) mo_Row_get mv_Row_get t_484 (by decide) rfl (by decide) (sh_5 _ _) rfl rfl (Nat.le_of_ble_eq_true rfl) d_Coast_shareOf_12 ?_
      refine j_icmp_ge (tgt := 36) hx d_Coast_shareOf_15 (by decide) (fun zc15 => ?_) (fun zc15 => ?_)
      · skip
        obtain rfl := ct_end' hi_i zc15
        refine j_iload_n hx d_Coast_shareOf_36 rfl 2 rfl ?_
        refine j_istore hx [(4, .int n), (0, .ref (G.1 4)), (1, .int door), (2, .int n), (3, .int (hds σ (ct (cM σ 4))))] d_Coast_shareOf_37 (by decide) rfl ?_
        refine j_iconst (v := 0) hx d_Coast_shareOf_39 (by decide) ?_
        refine j_istore hx [(5, .int 0), (4, .int n), (0, .ref (G.1 4)), (1, .int door), (2, .int n), (3, .int (hds σ (ct (cM σ 4))))] d_Coast_shareOf_40 (by decide) rfl ?_
        refine j_iload_n hx d_Coast_shareOf_42 rfl 4 rfl ?_
        refine j_aload_n hx d_Coast_shareOf_43 rfl 2 rfl ?_
        refine j_get hx ck_Coast 10 (by decide) t_112 (by decide) (sh_4 _ _) rfl d_Coast_shareOf_44 ?_
        refine j_iload_n hx d_Coast_shareOf_47 rfl 3 rfl ?_
        refine j_callVi hx (c_Row_getA hG ir_25 26 rfl σ door) mo_Row_get mv_Row_get t_484 (by decide) rfl (by decide) (sh_25 _ _) rfl rfl (Nat.le_of_ble_eq_true rfl) d_Coast_shareOf_48 ?_
        refine j_imul hx d_Coast_shareOf_51 ?_
        refine j_iload_n hx d_Coast_shareOf_52 rfl 5 rfl ?_
        refine j_callNi hx (c_DL_left hG σ (n * (rg (σ (25 + 1)) 6 door)) (hds σ (ct (cM σ 4)))) mo_DL_left t_1113 t_1268 (by decide) rfl rfl (Nat.le_of_ble_eq_true rfl) d_Coast_shareOf_53 ?_
        refine j_istore hx [(6, .int (lft (n * (rg (σ (25 + 1)) 6 door)) (hds σ (ct (cM σ 4))))), (5, .int 0), (4, .int n), (0, .ref (G.1 4)), (1, .int door), (2, .int n), (3, .int (hds σ (ct (cM σ 4))))] d_Coast_shareOf_56 (by decide) rfl ?_
        refine j_iconst (v := 0) hx d_Coast_shareOf_58 (by decide) ?_
        refine j_istore hx [(7, .int 0), (6, .int (lft (n * (rg (σ (25 + 1)) 6 door)) (hds σ (ct (cM σ 4))))), (5, .int 0), (4, .int n), (0, .ref (G.1 4)), (1, .int door), (2, .int n), (3, .int (hds σ (ct (cM σ 4))))] d_Coast_shareOf_59 (by decide) rfl ?_
        have hl61 : ∀ (N9 : Nat) (j : Nat), (j ≤ (ct (cM σ 4))) → (ct (cM σ 4)) - j = N9 → J l G X 9 σ 61 [(0, .ref (G.1 4)), (1, .int door), (2, .int n), (3, .int (hds σ (ct (cM σ 4)))), (4, .int (shO σ n (hds σ (nDo σ)) j)), (5, .int (shB σ door n (hds σ (nDo σ)) j)), (6, .int (lft (n * (rg (σ (25 + 1)) 6 door)) (hds σ (ct (cM σ 4))))), (7, .int (nI j))] [] := by
          intro N9
          induction N9 using Nat.strongRecOn with
          | _ N9 ih61 =>
            intro j hi_j hm61
            refine j_iload hx d_Coast_shareOf_61 7 rfl ?_
            refine j_aload_n hx d_Coast_shareOf_63 rfl 0 rfl ?_
            refine j_get hx ck_Coast 0 (by decide) t_82 (by decide) (sh_4 _ _) rfl d_Coast_shareOf_64 ?_
            refine j_iconst (v := 4) hx d_Coast_shareOf_67 (by decide) ?_
            refine j_callVi hx (c_Row_getA hG ir_5 6 rfl σ 4) mo_Row_get mv_Row_get t_484 (by decide) rfl (by decide) (sh_5 _ _) rfl rfl (Nat.le_of_ble_eq_true rfl) d_Coast_shareOf_68 ?_
            refine j_icmp_ge (tgt := 147) hx d_Coast_shareOf_71 (by decide) (fun zc71 => ?_) (fun zc71 => ?_)
            · skip
              obtain rfl := ct_end' hi_j zc71
              refine j_iload_n hx d_Coast_shareOf_147 rfl 2 rfl ?_
              refine j_aload_n hx d_Coast_shareOf_148 rfl 0 rfl ?_
              refine j_get hx ck_Coast 10 (by decide) t_112 (by decide) (sh_4 _ _) rfl d_Coast_shareOf_149 ?_
              refine j_iload_n hx d_Coast_shareOf_152 rfl 1 rfl ?_
              refine j_callVi hx (c_Row_getA hG ir_25 26 rfl σ door) mo_Row_get mv_Row_get t_484 (by decide) rfl (by decide) (sh_25 _ _) rfl rfl (Nat.le_of_ble_eq_true rfl) d_Coast_shareOf_153 ?_
              refine j_imul hx d_Coast_shareOf_156 ?_
              refine j_iload_n hx d_Coast_shareOf_157 rfl 3 rfl ?_
              refine j_callNi hx (c_DL_cut hG σ (n * (rg (σ (25 + 1)) 6 door)) (hds σ (ct (cM σ 4)))) mo_DL_cut t_1116 t_1269 (by decide) rfl rfl (Nat.le_of_ble_eq_true rfl) d_Coast_shareOf_158 ?_
              refine j_iload hx d_Coast_shareOf_161 5 rfl ?_
              refine j_iload hx d_Coast_shareOf_163 4 rfl ?_
              refine j_icmp_ge (tgt := 172) hx d_Coast_shareOf_165 (by decide) (fun zc165 => ?_) (fun zc165 => ?_)
              · skip
                refine j_iconst (v := 0) hx d_Coast_shareOf_172 (by decide) ?_
                refine j_iadd hx d_Coast_shareOf_173 ?_
                exact j_iret hx hq rfl d_Coast_shareOf_174 (by first | (unfold shr; first | (rw [b2_t (i_nle zc165)]; done) | (rw [b2_f (i_lelt zc165)]; done)) | fail) (by first | (first | rfl | (simp only [zc15, zc71, zc165]; done) | (simp [zc15, zc71, zc165]; done)) | fail)
              · skip
                refine j_iconst (v := 1) hx d_Coast_shareOf_168 (by decide) ?_
                refine j_goto (tgt := 173) hx d_Coast_shareOf_169 (by decide) ?_
                refine j_iadd hx d_Coast_shareOf_173 ?_
                exact j_iret hx hq rfl d_Coast_shareOf_174 (by first | (unfold shr; first | (rw [b2_t (i_nle zc165)]; done) | (rw [b2_f (i_lelt zc165)]; done)) | fail) (by first | (first | rfl | (simp only [zc15, zc71, zc165]; done) | (simp [zc15, zc71, zc165]; done)) | fail)
            · skip
              have hlt61 := ct_go hi_j zc71
              refine j_iload_n hx d_Coast_shareOf_74 rfl 2 rfl ?_
              refine j_aload_n hx d_Coast_shareOf_75 rfl 0 rfl ?_
              refine j_get hx ck_Coast 10 (by decide) t_112 (by decide) (sh_4 _ _) rfl d_Coast_shareOf_76 ?_
              refine j_iload hx d_Coast_shareOf_79 7 rfl ?_
              refine j_callVi hx (c_Row_getA hG ir_25 26 rfl σ (nI j)) mo_Row_get mv_Row_get t_484 (by decide) rfl (by decide) (sh_25 _ _) rfl rfl (Nat.le_of_ble_eq_true rfl) d_Coast_shareOf_81 ?_
              refine j_imul hx d_Coast_shareOf_84 ?_
              refine j_iload_n hx d_Coast_shareOf_85 rfl 3 rfl ?_
              refine j_callNi hx (c_DL_left hG σ (n * (rg (σ (25 + 1)) 6 (nI j))) (hds σ (ct (cM σ 4)))) mo_DL_left t_1113 t_1268 (by decide) rfl rfl (Nat.le_of_ble_eq_true rfl) d_Coast_shareOf_86 ?_
              refine j_istore hx [(8, .int (lft (n * (rg (σ (25 + 1)) 6 (nI j))) (hds σ (ct (cM σ 4))))), (0, .ref (G.1 4)), (1, .int door), (2, .int n), (3, .int (hds σ (ct (cM σ 4)))), (4, .int (shO σ n (hds σ (nDo σ)) j)), (5, .int (shB σ door n (hds σ (nDo σ)) j)), (6, .int (lft (n * (rg (σ (25 + 1)) 6 door)) (hds σ (ct (cM σ 4))))), (7, .int (nI j))] d_Coast_shareOf_89 (by decide) rfl ?_
              refine j_iload hx d_Coast_shareOf_91 5 rfl ?_
              refine j_iload_n hx d_Coast_shareOf_93 rfl 3 rfl ?_
              refine j_aload_n hx d_Coast_shareOf_94 rfl 1 rfl ?_
              refine j_get hx ck_Coast 10 (by decide) t_112 (by decide) (sh_4 _ _) rfl d_Coast_shareOf_95 ?_
              refine j_iload hx d_Coast_shareOf_98 8 rfl ?_
              refine j_callVi hx (c_Row_getA hG ir_25 26 rfl σ (nI j)) mo_Row_get mv_Row_get t_484 (by decide) rfl (by decide) (sh_25 _ _) rfl rfl (Nat.le_of_ble_eq_true rfl) d_Coast_shareOf_100 ?_
              refine j_imul hx d_Coast_shareOf_103 ?_
              refine j_iload_n hx d_Coast_shareOf_104 rfl 4 rfl ?_
              refine j_callNi hx (c_DL_cut hG σ (n * (rg (σ (25 + 1)) 6 (nI j))) (hds σ (ct (cM σ 4)))) mo_DL_cut t_1116 t_1269 (by decide) rfl rfl (Nat.le_of_ble_eq_true rfl) d_Coast_shareOf_105 ?_
              refine j_isub hx d_Coast_shareOf_108 ?_
              refine j_istore hx [(4, .int ((shO σ n (hds σ (nDo σ)) j) - (cutz (n * (rg (σ (25 + 1)) 6 (nI j))) (hds σ (ct (cM σ 4)))))), (8, .int (lft (n * (rg (σ (25 + 1)) 6 (nI j))) (hds σ (ct (cM σ 4))))), (0, .ref (G.1 4)), (1, .int door), (2, .int n), (3, .int (hds σ (ct (cM σ 4)))), (5, .int (shB σ door n (hds σ (nDo σ)) j)), (6, .int (lft (n * (rg (σ (25 + 1)) 6 door)) (hds σ (ct (cM σ 4))))), (7, .int (nI j))] d_Coast_shareOf_109 (by decide) rfl ?_
              refine j_iload hx d_Coast_shareOf_111 6 rfl ?_
              refine j_iload hx d_Coast_shareOf_113 1 rfl ?_
              refine j_iload hx d_Coast_shareOf_115 7 rfl ?_
              refine j_icmp_gt (tgt := 133) hx d_Coast_shareOf_117 (by decide) (fun zc117 => ?_) (fun zc117 => ?_)
              · skip
                refine j_iconst (v := 1) hx d_Coast_shareOf_133 (by decide) ?_
                refine j_goto (tgt := 138) hx d_Coast_shareOf_134 (by decide) ?_
                refine j_iadd hx d_Coast_shareOf_138 ?_
                refine j_istore hx [(5, .int ((shB σ door n (hds σ (nDo σ)) j) + 1)), (4, .int ((shO σ n (hds σ (nDo σ)) j) - (cutz (n * (rg (σ (25 + 1)) 6 (nI j))) (hds σ (ct (cM σ 4)))))), (8, .int (lft (n * (rg (σ (25 + 1)) 6 (nI j))) (hds σ (ct (cM σ 4))))), (0, .ref (G.1 4)), (1, .int door), (2, .int n), (3, .int (hds σ (ct (cM σ 4)))), (6, .int (lft (n * (rg (σ (25 + 1)) 6 door)) (hds σ (ct (cM σ 4))))), (7, .int (nI j))] d_Coast_shareOf_139 (by decide) rfl ?_
                refine j_iinc hx [(7, .int ((nI j) + 1)), (5, .int ((shB σ door n (hds σ (nDo σ)) j) + 1)), (4, .int ((shO σ n (hds σ (nDo σ)) j) - (cutz (n * (rg (σ (25 + 1)) 6 (nI j))) (hds σ (ct (cM σ 4)))))), (8, .int (lft (n * (rg (σ (25 + 1)) 6 (nI j))) (hds σ (ct (cM σ 4))))), (0, .ref (G.1 4)), (1, .int door), (2, .int n), (3, .int (hds σ (ct (cM σ 4)))), (6, .int (lft (n * (rg (σ (25 + 1)) 6 door)) (hds σ (ct (cM σ 4)))))] d_Coast_shareOf_141 8 rfl rfl (by decide) rfl ?_
                refine j_goto (tgt := 61) hx d_Coast_shareOf_144 (by decide) ?_
                refine J.lsub (ls' := [(0, .ref (G.1 4)), (1, .int door), (2, .int n), (3, .int (hds σ (ct (cM σ 4)))), (4, .int ((shO σ n (hds σ (nDo σ)) j) - (cutz (n * (rg (σ (25 + 1)) 6 (nI j))) (hds σ (ct (cM σ 4)))))), (5, .int ((shB σ door n (hds σ (nDo σ)) j) + 1)), (6, .int (lft (n * (rg (σ (25 + 1)) 6 door)) (hds σ (ct (cM σ 4))))), (7, .int ((nI j) + 1))]) [4, 5, 6, 7, 2, 1, 8, 0] rfl ?_
                refine J.to ?_ ?_ (ih61 _ ?_ (j + 1) hlt61 rfl)
                · first | (first | rfl | (simp [zc15, zc71, zc117]; done)) | fail
                · first | (simp only [nI_s, shO, shB, sm_s, it_s]; first | (rw [b2_t (p := shA σ door n (hds σ (nDo σ)) j) (Or.inl (i_nle9 zc117))]; done) | (rw [b2_t (p := shA σ door n (hds σ (nDo σ)) j) (Or.inr ⟨zc124, i_nle zc130⟩)]; done) | (rw [b2_f (p := shA σ door n (hds σ (nDo σ)) j) (fun z => z.elim (fun q => i_lelt (i_nlt zc117) q) (fun q => zc124 q.1))]; done) | (rw [b2_f (p := shA σ door n (hds σ (nDo σ)) j) (fun z => z.elim (fun q => i_lelt (i_nlt zc117) q) (fun q => i_lelt zc130 q.2))]; done)) | fail
                · first | (omega) | fail
              · skip
                refine j_iload hx d_Coast_shareOf_120 1 rfl ?_
                refine j_iload hx d_Coast_shareOf_122 7 rfl ?_
                refine j_icmp_ne (tgt := 137) hx d_Coast_shareOf_124 (by decide) (fun zc124 => ?_) (fun zc124 => ?_)
                · skip
                  refine j_iconst (v := 0) hx d_Coast_shareOf_137 (by decide) ?_
                  refine j_iadd hx d_Coast_shareOf_138 ?_
                  refine j_istore hx [(5, .int ((shB σ door n (hds σ (nDo σ)) j) + 0)), (4, .int ((shO σ n (hds σ (nDo σ)) j) - (cutz (n * (rg (σ (25 + 1)) 6 (nI j))) (hds σ (ct (cM σ 4)))))), (8, .int (lft (n * (rg (σ (25 + 1)) 6 (nI j))) (hds σ (ct (cM σ 4))))), (0, .ref (G.1 4)), (1, .int door), (2, .int n), (3, .int (hds σ (ct (cM σ 4)))), (6, .int (lft (n * (rg (σ (25 + 1)) 6 door)) (hds σ (ct (cM σ 4))))), (7, .int (nI j))] d_Coast_shareOf_139 (by decide) rfl ?_
                  refine j_iinc hx [(7, .int ((nI j) + 1)), (5, .int ((shB σ door n (hds σ (nDo σ)) j) + 0)), (4, .int ((shO σ n (hds σ (nDo σ)) j) - (cutz (n * (rg (σ (25 + 1)) 6 (nI j))) (hds σ (ct (cM σ 4)))))), (8, .int (lft (n * (rg (σ (25 + 1)) 6 (nI j))) (hds σ (ct (cM σ 4))))), (0, .ref (G.1 4)), (1, .int door), (2, .int n), (3, .int (hds σ (ct (cM σ 4)))), (6, .int (lft (n * (rg (σ (25 + 1)) 6 door)) (hds σ (ct (cM σ 4)))))] d_Coast_shareOf_141 8 rfl rfl (by decide) rfl ?_
                  refine j_goto (tgt := 61) hx d_Coast_shareOf_144 (by decide) ?_
                  refine J.lsub (ls' := [(0, .ref (G.1 4)), (1, .int door), (2, .int n), (3, .int (hds σ (ct (cM σ 4)))), (4, .int ((shO σ n (hds σ (nDo σ)) j) - (cutz (n * (rg (σ (25 + 1)) 6 (nI j))) (hds σ (ct (cM σ 4)))))), (5, .int ((shB σ door n (hds σ (nDo σ)) j) + 0)), (6, .int (lft (n * (rg (σ (25 + 1)) 6 door)) (hds σ (ct (cM σ 4))))), (7, .int ((nI j) + 1))]) [4, 5, 6, 7, 2, 1, 8, 0] rfl ?_
                  refine J.to ?_ ?_ (ih61 _ ?_ (j + 1) hlt61 rfl)
                  · first | (first | rfl | (simp [zc15, zc71, zc117, zc124]; done)) | fail
                  · first | (simp only [nI_s, shO, shB, sm_s, it_s]; first | (rw [b2_t (p := shA σ door n (hds σ (nDo σ)) j) (Or.inl (i_nle9 zc117))]; done) | (rw [b2_t (p := shA σ door n (hds σ (nDo σ)) j) (Or.inr ⟨zc124, i_nle zc130⟩)]; done) | (rw [b2_f (p := shA σ door n (hds σ (nDo σ)) j) (fun z => z.elim (fun q => i_lelt (i_nlt zc117) q) (fun q => zc124 q.1))]; done) | (rw [b2_f (p := shA σ door n (hds σ (nDo σ)) j) (fun z => z.elim (fun q => i_lelt (i_nlt zc117) q) (fun q => i_lelt zc130 q.2))]; done)) | fail
                  · first | (omega) | fail
                · skip
                  refine j_iload hx d_Coast_shareOf_127 8 rfl ?_
                  refine j_iload_n hx d_Coast_shareOf_129 rfl 3 rfl ?_
                  refine j_icmp_ge (tgt := 137) hx d_Coast_shareOf_130 (by decide) (fun zc130 => ?_) (fun zc130 => ?_)
                  · skip
                    refine j_iconst (v := 0) hx d_Coast_shareOf_137 (by decide) ?_
                    refine j_iadd hx d_Coast_shareOf_138 ?_
                    refine j_istore hx [(5, .int ((shB σ door n (hds σ (nDo σ)) j) + 0)), (4, .int ((shO σ n (hds σ (nDo σ)) j) - (cutz (n * (rg (σ (25 + 1)) 6 (nI j))) (hds σ (ct (cM σ 4)))))), (8, .int (lft (n * (rg (σ (25 + 1)) 6 (nI j))) (hds σ (ct (cM σ 4))))), (0, .ref (G.1 4)), (1, .int door), (2, .int n), (3, .int (hds σ (ct (cM σ 4)))), (6, .int (lft (n * (rg (σ (25 + 1)) 6 door)) (hds σ (ct (cM σ 4))))), (7, .int (nI j))] d_Coast_shareOf_139 (by decide) rfl ?_
                    refine j_iinc hx [(7, .int ((nI j) + 1)), (5, .int ((shB σ door n (hds σ (nDo σ)) j) + 0)), (4, .int ((shO σ n (hds σ (nDo σ)) j) - (cutz (n * (rg (σ (25 + 1)) 6 (nI j))) (hds σ (ct (cM σ 4)))))), (8, .int (lft (n * (rg (σ (25 + 1)) 6 (nI j))) (hds σ (ct (cM σ 4))))), (0, .ref (G.1 4)), (1, .int door), (2, .int n), (3, .int (hds σ (ct (cM σ 4)))), (6, .int (lft (n * (rg (σ (25 + 1)) 6 door)) (hds σ (ct (cM σ 4)))))] d_Coast_shareOf_141 8 rfl rfl (by decide) rfl ?_
                    refine j_goto (tgt := 61) hx d_Coast_shareOf_144 (by decide) ?_
                    refine J.lsub (ls' := [(0, .ref (G.1 4)), (1, .int door), (2, .int n), (3, .int (hds σ (ct (cM σ 4)))), (4, .int ((shO σ n (hds σ (nDo σ)) j) - (cutz (n * (rg (σ (25 + 1)) 6 (nI j))) (hds σ (ct (cM σ 4)))))), (5, .int ((shB σ door n (hds σ (nDo σ)) j) + 0)), (6, .int (lft (n * (rg (σ (25 + 1)) 6 door)) (hds σ (ct (cM σ 4))))), (7, .int ((nI j) + 1))]) [4, 5, 6, 7, 2, 1, 8, 0] rfl ?_
                    refine J.to ?_ ?_ (ih61 _ ?_ (j + 1) hlt61 rfl)
                    · first | (first | rfl | (simp [zc15, zc71, zc117, zc124, zc130]; done)) | fail
                    · first | (simp only [nI_s, shO, shB, sm_s, it_s]; first | (rw [b2_t (p := shA σ door n (hds σ (nDo σ)) j) (Or.inl (i_nle9 zc117))]; done) | (rw [b2_t (p := shA σ door n (hds σ (nDo σ)) j) (Or.inr ⟨zc124, i_nle zc130⟩)]; done) | (rw [b2_f (p := shA σ door n (hds σ (nDo σ)) j) (fun z => z.elim (fun q => i_lelt (i_nlt zc117) q) (fun q => zc124 q.1))]; done) | (rw [b2_f (p := shA σ door n (hds σ (nDo σ)) j) (fun z => z.elim (fun q => i_lelt (i_nlt zc117) q) (fun q => i_lelt zc130 q.2))]; done)) | fail
                    · first | (omega) | fail
                  · skip
                    refine j_iconst (v := 1) hx d_Coast_shareOf_133 (by decide) ?_
                    refine j_goto (tgt := 138) hx d_Coast_shareOf_134 (by decide) ?_
                    refine j_iadd hx d_Coast_shareOf_138 ?_
                    refine j_istore hx [(5, .int ((shB σ door n (hds σ (nDo σ)) j) + 1)), (4, .int ((shO σ n (hds σ (nDo σ)) j) - (cutz (n * (rg (σ (25 + 1)) 6 (nI j))) (hds σ (ct (cM σ 4)))))), (8, .int (lft (n * (rg (σ (25 + 1)) 6 (nI j))) (hds σ (ct (cM σ 4))))), (0, .ref (G.1 4)), (1, .int door), (2, .int n), (3, .int (hds σ (ct (cM σ 4)))), (6, .int (lft (n * (rg (σ (25 + 1)) 6 door)) (hds σ (ct (cM σ 4))))), (7, .int (nI j))] d_Coast_shareOf_139 (by decide) rfl ?_
                    refine j_iinc hx [(7, .int ((nI j) + 1)), (5, .int ((shB σ door n (hds σ (nDo σ)) j) + 1)), (4, .int ((shO σ n (hds σ (nDo σ)) j) - (cutz (n * (rg (σ (25 + 1)) 6 (nI j))) (hds σ (ct (cM σ 4)))))), (8, .int (lft (n * (rg (σ (25 + 1)) 6 (nI j))) (hds σ (ct (cM σ 4))))), (0, .ref (G.1 4)), (1, .int door), (2, .int n), (3, .int (hds σ (ct (cM σ 4)))), (6, .int (lft (n * (rg (σ (25 + 1)) 6 door)) (hds σ (ct (cM σ 4)))))] d_Coast_shareOf_141 8 rfl rfl (by decide) rfl ?_
                    refine j_goto (tgt := 61) hx d_Coast_shareOf_144 (by decide) ?_
                    refine J.lsub (ls' := [(0, .ref (G.1 4)), (1, .int door), (2, .int n), (3, .int (hds σ (ct (cM σ 4)))), (4, .int ((shO σ n (hds σ (nDo σ)) j) - (cutz (n * (rg (σ (25 + 1)) 6 (nI j))) (hds σ (ct (cM σ 4)))))), (5, .int ((shB σ door n (hds σ (nDo σ)) j) + 1)), (6, .int (lft (n * (rg (σ (25 + 1)) 6 door)) (hds σ (ct (cM σ 4))))), (7, .int ((nI j) + 1))]) [4, 5, 6, 7, 2, 1, 8, 0] rfl ?_
                    refine J.to ?_ ?_ (ih61 _ ?_ (j + 1) hlt61 rfl)
                    · first | (first | rfl | (simp [zc15, zc71, zc117, zc124, zc130]; done)) | fail
                    · first | (simp only [nI_s, shO, shB, sm_s, it_s]; first | (rw [b2_t (p := shA σ door n (hds σ (nDo σ)) j) (Or.inl (i_nle9 zc117))]; done) | (rw [b2_t (p := shA σ door n (hds σ (nDo σ)) j) (Or.inr ⟨zc124, i_nle zc130⟩)]; done) | (rw [b2_f (p := shA σ door n (hds σ (nDo σ)) j) (fun z => z.elim (fun q => i_lelt (i_nlt zc117) q) (fun q => zc124 q.1))]; done) | (rw [b2_f (p := shA σ door n (hds σ (nDo σ)) j) (fun z => z.elim (fun q => i_lelt (i_nlt zc117) q) (fun q => i_lelt zc130 q.2))]; done)) | fail
                    · first | (omega) | fail
        refine J.lsub (ls' := [(0, .ref (G.1 4)), (1, .int door), (2, .int n), (3, .int (hds σ (ct (cM σ 4)))), (4, .int n), (5, .int 0), (6, .int (lft (n * (rg (σ (25 + 1)) 6 door)) (hds σ (ct (cM σ 4))))), (7, .int 0)]) [4, 5, 6, 7, 3, 2, 1, 0] rfl ?_
        refine J.to ?_ ?_ (hl61 _ 0 (Nat.zero_le _) rfl)
        · first | (first | rfl | (simp [zc15]; done)) | fail
        · first | (first | rfl | (simp only [nI_s]; done) | (simp only [nI_s, it_s]; done) | (simp [nI_s, it_s, zc15]; done)) | fail
      · skip
        have hlt5 := ct_go hi_i zc15
        refine j_iload_n hx d_Coast_shareOf_18 rfl 3 rfl ?_
        refine j_aload_n hx d_Coast_shareOf_19 rfl 0 rfl ?_
        refine j_get hx ck_Coast 10 (by decide) t_112 (by decide) (sh_4 _ _) rfl d_Coast_shareOf_20 ?_
        refine j_iload hx d_Coast_shareOf_23 4 rfl ?_
        refine j_callVi hx (c_Row_getA hG ir_25 26 rfl σ (nI i)) mo_Row_get mv_Row_get t_484 (by decide) rfl (by decide) (sh_25 _ _) rfl rfl (Nat.le_of_ble_eq_true rfl) d_Coast_shareOf_25 ?_
        refine j_iadd hx d_Coast_shareOf_28 ?_
        refine j_istore_n hx [(3, .int ((hds σ i) + (rg (σ (25 + 1)) 6 (nI i)))), (0, .ref (G.1 4)), (1, .int door), (2, .int n), (4, .int (nI i))] d_Coast_shareOf_29 rfl (by decide) rfl ?_
        refine j_iinc hx [(4, .int ((nI i) + 1)), (3, .int ((hds σ i) + (rg (σ (25 + 1)) 6 (nI i)))), (0, .ref (G.1 4)), (1, .int door), (2, .int n)] d_Coast_shareOf_30 4 rfl rfl (by decide) rfl ?_
        refine j_goto (tgt := 5) hx d_Coast_shareOf_33 (by decide) ?_
        refine J.lsub (ls' := [(0, .ref (G.1 4)), (1, .int door), (2, .int n), (3, .int ((hds σ i) + (rg (σ (25 + 1)) 6 (nI i)))), (4, .int ((nI i) + 1))]) [2, 3, 4, 1, 0] rfl ?_
        refine J.to ?_ ?_ (ih5 _ ?_ (i + 1) hlt5 rfl)
        · first | (first | rfl | (simp [zc15]; done)) | fail
        · first | (simp only [nI_s, hds, sm_s]) | fail
        · first | (omega) | fail
  refine J.lsub (ls' := [(0, .ref (G.1 4)), (1, .int door), (2, .int n), (3, .int 0), (4, .int 0)]) [2, 3, 4, 1, 0] rfl ?_
  refine J.to ?_ ?_ (hl5 _ 0 (Nat.zero_le _) rfl)
  · first | (first | rfl | (simp []; done)) | fail
  · first | (first | rfl | (simp only [nI_s]; done) | (simp only [nI_s, it_s]; done) | (simp [nI_s, it_s, ]; done)) | fail

set_option maxRecDepth 20000 in
set_option maxHeartbeats 4000000 in
theorem c_Coast_rowFrom {l : Launch} {G : Gz} (hG : zI G) (σ : St) (a : Int32) (p : Int32) (n : Int32) : MI l G y_Coast_rowFrom prog_2_method_21_code 5 .int 2 [.int a, .int p, .int n] σ (rof a p n) σ := by
  refine MI.of hG (by decide) (Nat.le_of_ble_eq_true rfl) (fun X hx hq => ?_)
  show J l G X 5 σ 0 [(0, .int a), (1, .int p), (2, .int n)] []
  refine j_iconst (v := 0) hx d_Coast_rowFrom_0 (by decide) ?_
  refine j_istore_n hx [(3, .int 0), (0, .int a), (1, .int p), (2, .int n)] d_Coast_rowFrom_1 rfl (by decide) rfl ?_
  refine j_iconst (v := 0) hx d_Coast_rowFrom_2 (by decide) ?_
  refine j_istore hx [(4, .int 0), (3, .int 0), (0, .int a), (1, .int p), (2, .int n)] d_Coast_rowFrom_3 (by decide) rfl ?_
  have hl5 : ∀ (N9 : Nat) (i : Nat), (i ≤ (ct n)) → (ct n) - i = N9 → J l G X 5 σ 5 [(0, .int a), (1, .int p), (2, .int n), (3, .int (bt (fun i => fIn (a + nI i) p) i)), (4, .int (nI i))] [] := by
    intro N9
    induction N9 using Nat.strongRecOn with
    | _ N9 ih5 =>
      intro i hi_i hm5
      refine j_iload hx d_Coast_rowFrom_5 4 rfl ?_
      refine j_iload_n hx d_Coast_rowFrom_7 rfl 2 rfl ?_
      refine j_icmp_ge (tgt := 39) hx d_Coast_rowFrom_8 (by decide) (fun zc8 => ?_) (fun zc8 => ?_)
      · skip
        obtain rfl := ct_end' hi_i zc8
        refine j_iload_n hx d_Coast_rowFrom_39 rfl 3 rfl ?_
        exact j_iret hx hq rfl d_Coast_rowFrom_40 (by first | (first | rfl | (simp only [zc8]; done) | (simp [zc8]; done)) | fail) (by first | (first | rfl | (simp only [zc8]; done) | (simp [zc8]; done)) | fail)
      · skip
        have hlt5 := ct_go hi_i zc8
        refine j_iload_n hx d_Coast_rowFrom_11 rfl 3 rfl ?_
        refine j_iload_n hx d_Coast_rowFrom_12 rfl 0 rfl ?_
        refine j_iload hx d_Coast_rowFrom_13 4 rfl ?_
        refine j_iadd hx d_Coast_rowFrom_15 ?_
        refine j_iload_n hx d_Coast_rowFrom_16 rfl 1 rfl ?_
        refine j_callNi hx (c_DL_flashesIn hG σ (a + (nI i)) p) mo_DL_flashesIn t_512 t_511 (by decide) rfl rfl (Nat.le_of_ble_eq_true rfl) d_Coast_rowFrom_17 ?_
        refine j_if_eq (tgt := 30) hx d_Coast_rowFrom_20 (by decide) (fun zc20 => ?_) (fun zc20 => ?_)
        · skip
          refine j_iconst (v := 0) hx d_Coast_rowFrom_30 (by decide) ?_
          refine j_ior hx d_Coast_rowFrom_31 ?_
          refine j_istore_n hx [(3, .int ((bt (fun i => fIn (a + nI i) p) i) ||| 0)), (0, .int a), (1, .int p), (2, .int n), (4, .int (nI i))] d_Coast_rowFrom_32 rfl (by decide) rfl ?_
          refine j_iinc hx [(4, .int ((nI i) + 1)), (3, .int ((bt (fun i => fIn (a + nI i) p) i) ||| 0)), (0, .int a), (1, .int p), (2, .int n)] d_Coast_rowFrom_33 4 rfl rfl (by decide) rfl ?_
          refine j_goto (tgt := 5) hx d_Coast_rowFrom_36 (by decide) ?_
          refine J.lsub (ls' := [(0, .int a), (1, .int p), (2, .int n), (3, .int ((bt (fun i => fIn (a + nI i) p) i) ||| 0)), (4, .int ((nI i) + 1))]) [2, 3, 4, 1, 0] rfl ?_
          refine J.to ?_ ?_ (ih5 _ ?_ (i + 1) hlt5 rfl)
          · first | (first | rfl | (simp [zc8, zc20]; done)) | fail
          · first | (simp only [nI_s, bt_s]; first | rw [if_neg (b2_z zc20)] | rw [if_pos (b2_nz zc20)]) | fail
          · first | (omega) | fail
        · skip
          refine j_iconst (v := 1) hx d_Coast_rowFrom_23 (by decide) ?_
          refine j_iload hx d_Coast_rowFrom_24 4 rfl ?_
          refine j_ishl hx d_Coast_rowFrom_26 ?_
          refine j_goto (tgt := 31) hx d_Coast_rowFrom_27 (by decide) ?_
          refine j_ior hx d_Coast_rowFrom_31 ?_
          refine j_istore_n hx [(3, .int ((bt (fun i => fIn (a + nI i) p) i) ||| (1 <<< ((nI i) &&& 31)))), (0, .int a), (1, .int p), (2, .int n), (4, .int (nI i))] d_Coast_rowFrom_32 rfl (by decide) rfl ?_
          refine j_iinc hx [(4, .int ((nI i) + 1)), (3, .int ((bt (fun i => fIn (a + nI i) p) i) ||| (1 <<< ((nI i) &&& 31)))), (0, .int a), (1, .int p), (2, .int n)] d_Coast_rowFrom_33 4 rfl rfl (by decide) rfl ?_
          refine j_goto (tgt := 5) hx d_Coast_rowFrom_36 (by decide) ?_
          refine J.lsub (ls' := [(0, .int a), (1, .int p), (2, .int n), (3, .int ((bt (fun i => fIn (a + nI i) p) i) ||| (1 <<< ((nI i) &&& 31)))), (4, .int ((nI i) + 1))]) [2, 3, 4, 1, 0] rfl ?_
          refine J.to ?_ ?_ (ih5 _ ?_ (i + 1) hlt5 rfl)
          · first | (first | rfl | (simp [zc8, zc20]; done)) | fail
          · first | (simp only [nI_s, bt_s]; first | rw [if_neg (b2_z zc20)] | rw [if_pos (b2_nz zc20)]) | fail
          · first | (omega) | fail
  refine J.lsub (ls' := [(0, .int a), (1, .int p), (2, .int n), (3, .int 0), (4, .int 0)]) [2, 3, 4, 1, 0] rfl ?_
  refine J.to ?_ ?_ (hl5 _ 0 (Nat.zero_le _) rfl)
  · first | (first | rfl | (simp []; done)) | fail
  · first | (first | rfl | (simp only [nI_s]; done) | (simp only [nI_s, it_s]; done) | (simp [nI_s, it_s, ]; done)) | fail

