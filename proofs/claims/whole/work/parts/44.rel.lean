/-! ===== the class's part of the world and the reference's ===== -/
/-- the coast told: 6 .. 26 of the class, 115 .. 166 of the reference -/
def RC (σ : St) : Prop :=
  (∀ k, k < 5 → σ 6 k = σ 115 k) ∧
  (∀ k, k < 5 → 0 ≤ (σ 115 k).toInt) ∧
  (tl σ 0 ≤ 12 ∧ tl σ 1 ≤ 6 ∧ tl σ 2 ≤ 3 ∧ tl σ 3 ≤ 6 ∧ tl σ 4 ≤ 6) ∧
  (σ 4 11 = σ 115 5 ∧ 0 ≤ (σ 115 5).toInt ∧ (σ 115 5).toInt ≤ 1000) ∧
  (∀ c, c < tl σ 0 → σ 8 c = σ 117 c ∧ 0 ≤ (σ 117 c).toInt ∧ (σ 117 c).toInt ≤ 1000) ∧
  (∀ k, k < tl σ 4 → σ 26 k = σ 119 k ∧ 0 ≤ (σ 119 k).toInt ∧ (σ 119 k).toInt ≤ 1000) ∧
  (∀ j, j < tl σ 1 → σ 10 j = σ (143 + j) 0 ∧ 0 ≤ (σ (143 + j) 0).toInt ∧ (σ (143 + j) 0).toInt ≤ 1000) ∧
  (∀ j, j < tl σ 1 → σ 12 j = σ (143 + j) 1 ∧ 1 ≤ (σ (143 + j) 1).toInt ∧ (σ (143 + j) 1).toInt ≤ 9) ∧
  (∀ d, d < tl σ 2 → σ 14 d = σ (152 + d) 0 ∧ 0 ≤ (σ (152 + d) 0).toInt ∧ (σ (152 + d) 0).toInt ≤ 1000) ∧
  (∀ d, d < tl σ 2 → σ 16 d = σ (152 + d) 1 ∧ 1 ≤ (σ (152 + d) 1).toInt ∧ (σ (152 + d) 1).toInt ≤ 9) ∧
  (∀ s, s < tl σ 3 → (σ 18 s = σ (161 + s) 0 ∧ σ 20 s = σ (161 + s) 1 ∧ σ 22 s = σ (161 + s) 2 ∧ σ 24 s = σ (161 + s) 3) ∧ ∀ k, k < 4 → 0 ≤ (σ (161 + s) k).toInt ∧ (σ (161 + s) k).toInt ≤ 1000)
theorem RC.e {σ : St} (h : RC σ) : ∀ k, k < 5 → σ 6 k = σ 115 k := h.1
theorem RC.p {σ : St} (h : RC σ) : ∀ k, k < 5 → 0 ≤ (σ 115 k).toInt := h.2.1
theorem RC.b {σ : St} (h : RC σ) : tl σ 0 ≤ 12 ∧ tl σ 1 ≤ 6 ∧ tl σ 2 ≤ 3 ∧ tl σ 3 ≤ 6 ∧ tl σ 4 ≤ 6 := h.2.2.1
theorem RC.sg {σ : St} (h : RC σ) : σ 4 11 = σ 115 5 ∧ 0 ≤ (σ 115 5).toInt ∧ (σ 115 5).toInt ≤ 1000 := h.2.2.2.1
theorem RC.reef {σ : St} (h : RC σ) : ∀ c, c < tl σ 0 → σ 8 c = σ 117 c ∧ 0 ≤ (σ 117 c).toInt ∧ (σ 117 c).toInt ≤ 1000 := h.2.2.2.2.1
theorem RC.door {σ : St} (h : RC σ) : ∀ k, k < tl σ 4 → σ 26 k = σ 119 k ∧ 0 ≤ (σ 119 k).toInt ∧ (σ 119 k).toInt ≤ 1000 := h.2.2.2.2.2.1
theorem RC.lx {σ : St} (h : RC σ) : ∀ j, j < tl σ 1 → σ 10 j = σ (143 + j) 0 ∧ 0 ≤ (σ (143 + j) 0).toInt ∧ (σ (143 + j) 0).toInt ≤ 1000 := h.2.2.2.2.2.2.1
theorem RC.lp {σ : St} (h : RC σ) : ∀ j, j < tl σ 1 → σ 12 j = σ (143 + j) 1 ∧ 1 ≤ (σ (143 + j) 1).toInt ∧ (σ (143 + j) 1).toInt ≤ 9 := h.2.2.2.2.2.2.2.1
theorem RC.dx {σ : St} (h : RC σ) : ∀ d, d < tl σ 2 → σ 14 d = σ (152 + d) 0 ∧ 0 ≤ (σ (152 + d) 0).toInt ∧ (σ (152 + d) 0).toInt ≤ 1000 := h.2.2.2.2.2.2.2.2.1
theorem RC.dp {σ : St} (h : RC σ) : ∀ d, d < tl σ 2 → σ 16 d = σ (152 + d) 1 ∧ 1 ≤ (σ (152 + d) 1).toInt ∧ (σ (152 + d) 1).toInt ≤ 9 := h.2.2.2.2.2.2.2.2.2.1
theorem RC.sh {σ : St} (h : RC σ) : ∀ s, s < tl σ 3 → (σ 18 s = σ (161 + s) 0 ∧ σ 20 s = σ (161 + s) 1 ∧ σ 22 s = σ (161 + s) 2 ∧ σ 24 s = σ (161 + s) 3) ∧ ∀ k, k < 4 → 0 ≤ (σ (161 + s) k).toInt ∧ (σ (161 + s) k).toInt ≤ 1000 := h.2.2.2.2.2.2.2.2.2.2
/-- a row of nights: f the class's, g the reference's -/
def RN (nd ns nc : Nat) (f g : Nat → Int32) : Prop :=
  (f 0 = g 27) ∧
  (f 1 = g 28 ∧ (g 28 = 0 ∨ g 28 = 1)) ∧
  (f 2 = g 23) ∧
  (f 3 = g 24) ∧
  (f 4 = g 25) ∧
  (f 5 = g 26) ∧
  (f 6 = g 0) ∧
  (f 7 = g 4) ∧
  (∀ d, d < nd → f (8 + d) = g (1 + d) ∧ 0 ≤ (g (1 + d)).toInt ∧ (g (1 + d)).toInt ≤ 1000) ∧
  (∀ s, s < ns → f (11 + s) = g (5 + s)) ∧
  (∀ c, c < nc → f (17 + c) = g (11 + c))
theorem RN.night {nd ns nc : Nat} {f g : Nat → Int32} (h : RN nd ns nc f g) : f 0 = g 27 := h.1
theorem RN.fog {nd ns nc : Nat} {f g : Nat → Int32} (h : RN nd ns nc f g) : f 1 = g 28 ∧ (g 28 = 0 ∨ g 28 = 1) := h.2.1
theorem RN.struck {nd ns nc : Nat} {f g : Nat → Int32} (h : RN nd ns nc f g) : f 2 = g 23 := h.2.2.1
theorem RN.parish {nd ns nc : Nat} {f g : Nat → Int32} (h : RN nd ns nc f g) : f 3 = g 24 := h.2.2.2.1
theorem RN.held {nd ns nc : Nat} {f g : Nat → Int32} (h : RN nd ns nc f g) : f 4 = g 25 := h.2.2.2.2.1
theorem RN.alive {nd ns nc : Nat} {f g : Nat → Int32} (h : RN nd ns nc f g) : f 5 = g 26 := h.2.2.2.2.2.1
theorem RN.burn {nd ns nc : Nat} {f g : Nat → Int32} (h : RN nd ns nc f g) : f 6 = g 0 := h.2.2.2.2.2.2.1
theorem RN.passed {nd ns nc : Nat} {f g : Nat → Int32} (h : RN nd ns nc f g) : f 7 = g 4 := h.2.2.2.2.2.2.2.1
theorem RN.stand {nd ns nc : Nat} {f g : Nat → Int32} (h : RN nd ns nc f g) : ∀ d, d < nd → f (8 + d) = g (1 + d) ∧ 0 ≤ (g (1 + d)).toInt ∧ (g (1 + d)).toInt ≤ 1000 := h.2.2.2.2.2.2.2.2.1
theorem RN.times {nd ns nc : Nat} {f g : Nat → Int32} (h : RN nd ns nc f g) : ∀ s, s < ns → f (11 + s) = g (5 + s) := h.2.2.2.2.2.2.2.2.2.1
theorem RN.celled {nd ns nc : Nat} {f g : Nat → Int32} (h : RN nd ns nc f g) : ∀ c, c < nc → f (17 + c) = g (11 + c) := h.2.2.2.2.2.2.2.2.2.2
abbrev RNs (σ : St) : Prop := RN (tl σ 2) (tl σ 3) (tl σ 0) (σ 83) (σ 122) ∧ σ 122 29 = -1
theorem sm_congr {f g : Nat → Int32} {n : Nat} (h : ∀ i, i < n → f i = g i) : sm f n = sm g n := it_congr (fun i hi x => by rw [h i hi])
theorem bt_congr {P Q : Nat → Prop} [DecidablePred P] [DecidablePred Q] {n : Nat} (h : ∀ i, i < n → (P i ↔ Q i)) : bt P n = bt Q n := it_congr (fun i hi x => by
  by_cases p : P i
  · rw [if_pos p, if_pos ((h i hi).mp p)]
  · rw [if_neg p, if_neg (fun z => p ((h i hi).mpr z))])
theorem RC.m {σ : St} (h : RC σ) {k : Nat} (hk : k < 5) : cM σ (nI k) = σ 115 k := by rw [← h.e k hk]; exact rg_nI (by omega) (by decide)
theorem RC.m0 {σ : St} (h : RC σ) : cM σ 0 = σ 115 0 := h.m (k := 0) (by decide)
theorem RC.m1 {σ : St} (h : RC σ) : cM σ 1 = σ 115 1 := h.m (k := 1) (by decide)
theorem RC.m2 {σ : St} (h : RC σ) : cM σ 2 = σ 115 2 := h.m (k := 2) (by decide)
theorem RC.m3 {σ : St} (h : RC σ) : cM σ 3 = σ 115 3 := h.m (k := 3) (by decide)
theorem RC.m4 {σ : St} (h : RC σ) : cM σ 4 = σ 115 4 := h.m (k := 4) (by decide)
theorem RC.r {σ : St} (h : RC σ) {c : Nat} (hc : c < tl σ 0) : cR σ (nI c) = σ 117 c := by
  have := h.b.1
  exact (rg_nI (by omega) (by decide)).trans (h.reef c hc).1
theorem RC.o {σ : St} (h : RC σ) {k : Nat} (hk : k < tl σ 4) : dN σ (nI k) = σ 119 k := by
  have := h.b.2.2.2.2
  exact (rg_nI (by omega) (by decide)).trans (h.door k hk).1
theorem RC.x {σ : St} (h : RC σ) {j : Nat} (hj : j < tl σ 1) : lX σ (nI j) = σ (143 + j) 0 := by
  have := h.b.2.1
  exact (rg_nI (by omega) (by decide)).trans (h.lx j hj).1
theorem RC.y {σ : St} (h : RC σ) {j : Nat} (hj : j < tl σ 1) : lP σ (nI j) = σ (143 + j) 1 := by
  have := h.b.2.1
  exact (rg_nI (by omega) (by decide)).trans (h.lp j hj).1
theorem RC.u {σ : St} (h : RC σ) {d : Nat} (hd : d < tl σ 2) : dX σ (nI d) = σ (152 + d) 0 := by
  have := h.b.2.2.1
  exact (rg_nI (by omega) (by decide)).trans (h.dx d hd).1
theorem RC.v {σ : St} (h : RC σ) {d : Nat} (hd : d < tl σ 2) : dP σ (nI d) = σ (152 + d) 1 := by
  have := h.b.2.2.1
  exact (rg_nI (by omega) (by decide)).trans (h.dp d hd).1
theorem RC.s0 {σ : St} (h : RC σ) {s : Nat} (hs : s < tl σ 3) : sC σ (nI s) = σ (161 + s) 0 := by
  have := h.b.2.2.2.1
  exact (rg_nI (by omega) (by decide)).trans (h.sh s hs).1.1
theorem RC.s1 {σ : St} (h : RC σ) {s : Nat} (hs : s < tl σ 3) : sW σ (nI s) = σ (161 + s) 1 := by
  have := h.b.2.2.2.1
  exact (rg_nI (by omega) (by decide)).trans (h.sh s hs).1.2.1
theorem RC.s2 {σ : St} (h : RC σ) {s : Nat} (hs : s < tl σ 3) : sT σ (nI s) = σ (161 + s) 2 := by
  have := h.b.2.2.2.1
  exact (rg_nI (by omega) (by decide)).trans (h.sh s hs).1.2.2.1
theorem RC.s3 {σ : St} (h : RC σ) {s : Nat} (hs : s < tl σ 3) : sD σ (nI s) = σ (161 + s) 3 := by
  have := h.b.2.2.2.1
  exact (rg_nI (by omega) (by decide)).trans (h.sh s hs).1.2.2.2
theorem RC.pl {σ : St} (h : RC σ) {j : Nat} (hj : j < tl σ 1) : ¬ σ (143 + j) 1 = 0 := fun z => by
  have := (h.lp j hj).2.1; rw [z] at this; exact absurd this (by decide)
theorem RC.pd {σ : St} (h : RC σ) {d : Nat} (hd : d < tl σ 2) : ¬ σ (152 + d) 1 = 0 := fun z => by
  have := (h.dp d hd).2.1; rw [z] at this; exact absurd this (by decide)
theorem ng_nI {σ : St} {o i : Nat} (h : i < 29) : ng σ o (nI i) = σ (o + 2) i := rg_nI h (by decide)
/-! flashes seen -/
theorem ab_aw {x y : Int32} (hx : 0 ≤ x.toInt ∧ x.toInt ≤ 100000) (hy : 0 ≤ y.toInt ∧ y.toInt ≤ 100000) : ab (x - y) = aw x y := by
  have e : (x - y).toInt = x.toInt - y.toInt := i_sub rfl rfl (by omega) (by omega)
  have e2 : (y - x).toInt = y.toInt - x.toInt := i_sub rfl rfl (by omega) (by omega)
  have e0 : (0 : Int32).toInt = 0 := rfl
  have e3 : (0 - (x - y)).toInt = y.toInt - x.toInt := by rw [i_sub e0 e (by omega) (by omega)]; omega
  unfold ab aw
  by_cases h : y < x
  · rw [if_pos h]; rw [i_lt] at h; rw [if_pos (by rw [i_le, e, e0]; omega)]
  · rw [if_neg h]; rw [i_lt] at h
    by_cases h2 : 0 ≤ x - y
    · rw [if_pos h2]; rw [i_le, e, e0] at h2; rw [i_eq, e, e2]; omega
    · rw [if_neg h2, i_eq, e3, e2]
theorem it_add {f : Nat → Int32} {x : Int32} {n : Nat} : it (fun d a => a + f d) x n = x + sm f n := by
  induction n with
  | zero => show x = x + 0; rw [Int32.add_zero]
  | succ n ih => show it (fun d a => a + f d) x n + f n = x + (sm f n + f n); rw [ih, Int32.add_assoc]
theorem RC.rch {σ : St} (h : RC σ) (hn : RNs σ) : rch σ 81 = sgt σ 122 := by
  have e1 : ng σ 81 1 = σ 122 28 := (ng_nI (i := 1) (by decide)).trans hn.1.fog.1
  unfold Jvm.Pilot.CDonkeyLightLaw_law_r8509_9544ed.rch sgt
  rw [e1, h.sg.1]
  rcases hn.1.fog.2 with z | z
  · rw [z, if_neg (by decide)]; exact (Int32.div_one).symm
  · rw [z, if_pos rfl]; rfl
theorem RC.dat {σ : St} (h : RC σ) (hn : RNs σ) {m : Int32} {d : Nat} (hd : d < tl σ 2) (hm : 0 ≤ m.toInt ∧ m.toInt ≤ 1000) : dat σ 81 m d = mdA σ 122 d m := by
  have b2 := h.b.2.2.1
  have b0 := h.b.1
  have p0 := h.p 0 (by decide)
  have e1 : ng σ 81 (8 + nI d) = σ 122 (1 + d) := by
    rw [show (8 : Int32) + nI d = nI (8 + d) from by rw [i_eq, i_add (show (8 : Int32).toInt = 8 from rfl) (i_nI (by omega)) (by omega) (by omega), i_nI (by omega)]; omega]
    exact (ng_nI (by omega)).trans (hn.1.stand d hd).1
  have hs := (hn.1.stand d hd).2
  have e2 : (σ 122 (1 + d) + m).toInt = (σ 122 (1 + d)).toInt + m.toInt := i_add rfl rfl (by omega) (by omega)
  have e3 : (σ 115 0 - 1).toInt = (σ 115 0).toInt - 1 := i_sub rfl rfl (by omega) (by have : (σ 115 0).toInt.toNat ≤ 12 := b0; omega)
  unfold Jvm.Pilot.CDonkeyLightLaw_law_r8509_9544ed.dat mdA
  rw [e1, h.m0]
  by_cases q : σ 115 0 - 1 < σ 122 (1 + d) + m
  · rw [if_pos q, if_neg]
    rw [i_lt] at q ⊢; omega
  · rw [if_neg q]
    by_cases q2 : σ 122 (1 + d) + m < σ 115 0 - 1
    · rw [if_pos q2]
    · rw [if_neg q2, i_eq]; rw [i_lt] at q q2; omega
theorem RC.mdA {σ : St} (h : RC σ) (hn : RNs σ) {m : Int32} {d : Nat} (hd : d < tl σ 2) (hc : 0 < tl σ 0) (hm : 0 ≤ m.toInt ∧ m.toInt ≤ 1000) : 0 ≤ (mdA σ 122 d m).toInt ∧ (mdA σ 122 d m).toInt ≤ 100000 := by
  have b0 : (σ 115 0).toInt.toNat ≤ 12 := h.b.1
  have hc' : 0 < (σ 115 0).toInt.toNat := hc
  have hs := (hn.1.stand d hd).2
  have e2 : (σ 122 (1 + d) + m).toInt = (σ 122 (1 + d)).toInt + m.toInt := i_add rfl rfl (by omega) (by omega)
  have e3 : (σ 115 0 - 1).toInt = (σ 115 0).toInt - 1 := i_sub rfl rfl (by omega) (by omega)
  unfold Jvm.Pilot.CDonkeyLightLaw_law_r8509_9544ed.mdA
  split
  · omega
  · omega
theorem q_seen {σ : St} (h : RC σ) (hn : RNs σ) {c m : Int32} (hc0 : 0 < tl σ 0) (hc : 0 ≤ c.toInt ∧ c.toInt ≤ 1000) (hm : 0 ≤ m.toInt ∧ m.toInt ≤ 1000) : fsn σ c m = msb σ 122 c m := by
  have e6 : ng σ 81 6 = σ 122 0 := (ng_nI (i := 6) (by decide)).trans hn.1.burn
  have hr := h.rch hn
  unfold fsn msb lfl dfl
  rw [if_neg (show ¬ mmP σ 122 c m (sgt σ 122) from fun z => z.1 hn.2), hr, h.m1, h.m2]
  unfold msD msL
  rw [it_add]
  have e1 : sm (fun l => b2 (lfP σ 81 c m (sgt σ 122) l)) (ct (σ 115 1)) = sm (fun j => b2 (mlP σ 122 c m (sgt σ 122) j)) (tl σ 1) := sm_congr (fun j hj => b2_congr (by
    unfold lfP iSn mlP fl0
    rw [e6, h.x hj, h.y hj, ab_aw ⟨(h.lx j hj).2.1, by have := (h.lx j hj).2.2; omega⟩ ⟨hc.1, by omega⟩]
    exact ⟨fun z => ⟨z.1, z.2.2.2, z.2.2.1⟩, fun z => ⟨z.1, h.pl hj, z.2.2, z.2.1⟩⟩))
  have e2 : sm (fun d => b2 (dfP σ 81 c m (sgt σ 122) d)) (ct (σ 115 2)) = sm (fun d => b2 (mdP σ 122 c m (sgt σ 122) d)) (tl σ 2) := sm_congr (fun d hd => b2_congr (by
    unfold dfP iSn mdP fl0
    rw [h.v hd, h.dat hn hd hm, ab_aw (h.mdA hn hd hc0 hm) ⟨hc.1, by omega⟩]
    exact ⟨fun z => ⟨z.2.2, z.2.1⟩, fun z => ⟨h.pd hd, z.2, z.1⟩⟩))
  rw [e1, e2]
theorem znI_add {a b : Nat} (h : a + b < 100000) : nI a + nI b = nI (a + b) := by
  rw [i_eq, i_add (i_nI (by omega)) (i_nI (by omega)) (by omega) (by omega), i_nI (by omega)]; omega
theorem and1 (x : Int32) : x &&& 1 = 0 ∨ x &&& 1 = 1 := by
  have h : (x &&& 1).toBitVec = BitVec.ofNat 32 (x.toBitVec.toNat % 2) := by
    apply BitVec.eq_of_toNat_eq
    rw [Int32.toBitVec_and]
    show (x.toBitVec &&& 1#32).toNat = _
    rw [BitVec.toNat_and, BitVec.toNat_ofNat, BitVec.toNat_ofNat]
    show x.toBitVec.toNat &&& 1 = _
    rw [Nat.and_one_is_mod]
    exact (Nat.mod_eq_of_lt (by omega)).symm
  rcases Nat.mod_two_eq_zero_or_one x.toBitVec.toNat with z | z
  · left; apply Int32.toBitVec_inj.mp; rw [h, z]; rfl
  · right; apply Int32.toBitVec_inj.mp; rw [h, z]; rfl
theorem b2_and1 {x i : Int32} : b2 (hB x i) = (x >>> (i &&& 31)) &&& 1 := by
  unfold hB
  rcases and1 (x >>> (i &&& 31)) with z | z
  · rw [z]; rfl
  · rw [z]; rfl
/-! questions that change nothing -/
def vTold (σ : St) (w : Int32) : Int32 := if 4 < w then (if w = 11 then σ 68 1 else if w = 12 then σ 0 14 else rg (σ 83) 29 (0 + w - 5)) else rg (σ 6) 6 w
theorem q_told {σ : St} (h : RC σ) (hn : RNs σ) (hl : σ 68 1 = σ 111 37) (hr : σ 0 14 = σ 111 39) {w : Nat} (hw : w < 13) : vTold σ (nI w) = mtd σ w := by
  have g : ∀ i, i < 6 → 0 + nI (i + 5) - 5 = nI i := fun i hi => by
    have e : (0 + nI (i + 5)).toInt = i + 5 := by rw [i_add (show (0 : Int32).toInt = 0 from rfl) (i_nI (by omega)) (by omega) (by omega)]; omega
    rw [i_eq, i_sub e (show (5 : Int32).toInt = 5 from rfl) (by omega) (by omega), i_nI (by omega)]; omega
  have k : ∀ i, i < 6 → rg (σ 83) 29 (0 + nI (i + 5) - 5) = σ 83 i := fun i hi => by rw [g i hi]; exact rg_nI (by omega) (by decide)
  have m : ∀ i, i < 5 → rg (σ 6) 6 (nI i) = σ 115 i := fun i hi => h.m hi
  unfold vTold mtd
  by_cases h5 : w < 5
  · rw [if_neg (by rw [show (4 : Int32) = nI 4 from rfl, znI_lt (by omega) (by omega)]; omega), if_pos h5]; exact m w h5
  · rw [if_pos (by rw [show (4 : Int32) = nI 4 from rfl, znI_lt (by omega) (by omega)]; omega), if_neg h5]
    have hc : w = 5 ∨ w = 6 ∨ w = 7 ∨ w = 8 ∨ w = 9 ∨ w = 10 ∨ w = 11 ∨ w = 12 := by omega
    rcases hc with rfl | rfl | rfl | rfl | rfl | rfl | rfl | rfl
    · rw [if_neg (by decide), if_neg (by decide), if_pos rfl]; exact (k 0 (by decide)).trans hn.1.night
    · rw [if_neg (by decide), if_neg (by decide), if_neg (by decide), if_pos rfl]; exact (k 1 (by decide)).trans hn.1.fog.1
    · rw [if_neg (by decide), if_neg (by decide), if_neg (by decide), if_neg (by decide), if_pos rfl]; exact (k 2 (by decide)).trans hn.1.struck
    · rw [if_neg (by decide), if_neg (by decide), if_neg (by decide), if_neg (by decide), if_neg (by decide), if_pos rfl]; exact (k 3 (by decide)).trans hn.1.parish
    · rw [if_neg (by decide), if_neg (by decide), if_neg (by decide), if_neg (by decide), if_neg (by decide), if_neg (by decide), if_pos rfl]; exact (k 4 (by decide)).trans hn.1.held
    · rw [if_neg (by decide), if_neg (by decide), if_neg (by decide), if_neg (by decide), if_neg (by decide), if_neg (by decide), if_neg (by decide), if_pos rfl]; exact (k 5 (by decide)).trans hn.1.alive
    · rw [if_pos (by decide), if_neg (by decide), if_neg (by decide), if_neg (by decide), if_neg (by decide), if_neg (by decide), if_neg (by decide), if_pos rfl]; exact hl
    · rw [if_neg (by decide), if_pos (by decide), if_neg (by decide), if_neg (by decide), if_neg (by decide), if_neg (by decide), if_neg (by decide), if_neg (by decide), if_neg (by decide)]; exact hr
theorem sm_0 {f : Nat → Int32} {n : Nat} (h : ∀ i, i < n → f i = 0) : sm f n = 0 := by
  induction n with
  | zero => rfl
  | succ n ih => rw [sm_s, ih (fun i hi => h i (by omega)), h n (by omega)]; rfl
def vCell (σ : St) (c w : Int32) : Int32 := if w = 0 then rg (σ 8) 12 c else if w = 1 then sm (fun l => b2 (liP σ 81 c l)) (ct (cM σ 1)) else if w = 2 then sm (fun d => b2 (rg (σ 83) 29 (8 + nI d) = c)) (ct (cM σ 2)) else rg (σ 83) 29 (17 + c)
theorem q_cell {σ : St} (h : RC σ) (hn : RNs σ) {c : Nat} (hc : c < tl σ 0) {w : Int32} (hw : w = 0 ∨ w = 1 ∨ w = 2 ∨ w = 3) : vCell σ (nI c) w = mce σ c w := by
  have b0 := h.b.1
  have b2' := h.b.2.2.1
  have e6 : ng σ 81 6 = σ 122 0 := (ng_nI (i := 6) (by decide)).trans hn.1.burn
  unfold vCell mce
  rcases hw with rfl | rfl | rfl | rfl
  · rw [if_pos rfl, if_pos rfl]; exact h.r hc
  · rw [if_neg (by decide), if_pos rfl, if_neg (by decide), if_neg (by decide), h.m1]
    have e : mcd σ 1 c (tl σ 2) (mcl σ 1 c (tl σ 1)) = mcl σ 1 c (tl σ 1) := by
      unfold mcd
      rw [it_add, sm_0 (fun i _ => b2_f (fun z => absurd z.1 (by decide))), Int32.add_zero]
    rw [e]
    unfold mcl
    exact sm_congr (fun j hj => b2_congr (by
      unfold liP; rw [e6, h.x hj]; exact ⟨fun z => ⟨rfl, z⟩, fun z => z.2⟩))
  · rw [if_neg (by decide), if_neg (by decide), if_pos rfl, if_neg (by decide), if_neg (by decide), h.m2]
    have e : mcl σ 2 c (tl σ 1) = 0 := by
      unfold mcl; exact sm_0 (fun i _ => b2_f (fun z => absurd z.1 (by decide)))
    rw [e]; unfold mcd; rw [it_add, Int32.zero_add]
    exact sm_congr (fun d hd => b2_congr (by
      have hd' : d < tl σ 2 := hd
      rw [show (8 : Int32) = nI 8 from rfl, znI_add (by omega), rg_nI (by omega) (by decide), (hn.1.stand d hd).1]
      exact ⟨fun z => ⟨rfl, z⟩, fun z => z.2⟩))
  · rw [if_neg (by decide), if_neg (by decide), if_neg (by decide), if_neg (by decide), if_pos rfl]
    rw [show (17 : Int32) = nI 17 from rfl, znI_add (by omega), rg_nI (by omega) (by decide)]
    exact hn.1.celled c hc
def vLight (σ : St) (j w : Int32) : Int32 := if w = 2 then b2 (hB (rg (σ 83) 29 6) j) else if w = 0 then rg (σ 10) 6 j else rg (σ 12) 6 j
theorem q_light {σ : St} (h : RC σ) (hn : RNs σ) {j w : Nat} (hj : j < tl σ 1) (hw : w < 3) : vLight σ (nI j) (nI w) = mli σ j w := by
  have e6 : rg (σ 83) 29 6 = σ 122 0 := (rg_nI (i := 6) (by decide) (by decide)).trans hn.1.burn
  unfold vLight mli
  have hc : w = 0 ∨ w = 1 ∨ w = 2 := by omega
  rcases hc with rfl | rfl | rfl
  · rw [if_neg (by decide), if_pos (by decide), if_pos (by decide)]; exact h.x hj
  · rw [if_neg (by decide), if_neg (by decide), if_pos (by decide)]; exact h.y hj
  · rw [if_pos (by decide), if_neg (by decide), e6]; exact b2_and1
def vDonkey (σ : St) (d w : Int32) : Int32 := if w = 0 then rg (σ 83) 29 (8 + d) else rg (σ 16) 3 d
theorem q_donkey {σ : St} (h : RC σ) (hn : RNs σ) {d w : Nat} (hd : d < tl σ 2) (hw : w < 2) : vDonkey σ (nI d) (nI w) = mdo σ d w := by
  have b2' := h.b.2.2.1
  unfold vDonkey mdo
  have hc : w = 0 ∨ w = 1 := by omega
  rcases hc with rfl | rfl
  · rw [if_pos (by decide), if_pos rfl, show (8 : Int32) = nI 8 from rfl, znI_add (by omega), rg_nI (by omega) (by decide)]; exact (hn.1.stand d hd).1
  · rw [if_neg (by decide), if_neg (by decide)]; exact h.v hd
def vShip (σ : St) (j w : Int32) : Int32 := if w = 4 then b2 (hB (rg (σ 83) 29 7) j) else if w = 5 then rg (σ 83) 29 (11 + j) else shn σ j w
theorem q_ship {σ : St} (h : RC σ) (hn : RNs σ) {s w : Nat} (hs : s < tl σ 3) (hw : w < 6) : vShip σ (nI s) (nI w) = msh σ s w := by
  have b3 := h.b.2.2.2.1
  have e7 : rg (σ 83) 29 7 = σ 122 4 := (rg_nI (i := 7) (by decide) (by decide)).trans hn.1.passed
  unfold vShip msh
  have hc : w = 0 ∨ w = 1 ∨ w = 2 ∨ w = 3 ∨ w = 4 ∨ w = 5 := by omega
  rcases hc with rfl | rfl | rfl | rfl | rfl | rfl
  · rw [if_neg (by decide), if_neg (by decide), if_pos (by decide)]; unfold shn; rw [if_pos (by decide)]; exact h.s0 hs
  · rw [if_neg (by decide), if_neg (by decide), if_pos (by decide)]; unfold shn; rw [if_neg (by decide), if_pos (by decide)]; exact h.s1 hs
  · rw [if_neg (by decide), if_neg (by decide), if_pos (by decide)]; unfold shn; rw [if_neg (by decide), if_neg (by decide), if_pos (by decide)]; exact h.s2 hs
  · rw [if_neg (by decide), if_neg (by decide), if_pos (by decide)]; unfold shn; rw [if_neg (by decide), if_neg (by decide), if_neg (by decide)]; exact h.s3 hs
  · rw [if_pos (by decide), if_neg (by decide), if_pos (by decide), e7]; exact b2_and1
  · rw [if_neg (by decide), if_pos (by decide), if_neg (by decide), if_neg (by decide), show (11 : Int32) = nI 11 from rfl, znI_add (by omega), rg_nI (by omega) (by decide)]; exact hn.1.times s hs
theorem q_drawn {σ : St} (h : RC σ) {c : Nat} (hc : c < tl σ 0) : xdr σ (nI c) (ct (cM σ 3)) = mdw σ c (tl σ 3) := by
  rw [h.m3]; unfold xdr mdw
  exact bt_congr (fun s hs => by unfold stk mrP; rw [h.r hc, h.s3 hs])
theorem fIn_0 {m p : Int32} (hp : ¬ p = 0) : fIn m p ↔ fl0 m p := ⟨fun z => z.2, fun z => ⟨hp, z⟩⟩
def vAlike (σ : St) (d j w : Int32) : Int32 := if w = 0 then bt (xaA σ d j) 30 else bt (fun m => ¬ b2 (fIn (nI m) (rg (σ 16) 3 d)) = b2 (fIn (nI m) (rg (σ 12) 6 j))) 30
theorem q_alike {σ : St} (h : RC σ) {d j : Nat} (hd : d < tl σ 2) (hj : j < tl σ 1) {w : Int32} : vAlike σ (nI d) (nI j) w = if w = 0 then mlA σ d j 30 else mlO σ d j 30 := by
  have e1 : rg (σ 16) 3 (nI d) = σ (152 + d) 1 := h.v hd
  have e2 : rg (σ 12) 6 (nI j) = σ (143 + j) 1 := h.y hj
  unfold vAlike
  split
  · unfold mlA; exact bt_congr (fun m _ => by unfold xaA alA; rw [e1, e2, fIn_0 (h.pd hd), fIn_0 (h.pl hj)])
  · unfold mlO; exact bt_congr (fun m _ => by
      unfold alO; rw [e1, e2, b2_congr (fIn_0 (h.pd hd)), b2_congr (fIn_0 (h.pl hj))]
      by_cases p : fl0 (nI m) (σ (152 + d) 1)
      · by_cases q : fl0 (nI m) (σ (143 + j) 1)
        · rw [b2_t p, b2_t q]; exact ⟨fun z => absurd rfl z, fun z => absurd ⟨fun _ => q, fun _ => p⟩ z⟩
        · rw [b2_t p, b2_f q]; exact ⟨fun _ z => q (z.mp p), fun _ => by decide⟩
      · by_cases q : fl0 (nI m) (σ (143 + j) 1)
        · rw [b2_f p, b2_t q]; exact ⟨fun _ z => p (z.mpr q), fun _ => by decide⟩
        · rw [b2_f p, b2_f q]; exact ⟨fun z => absurd rfl z, fun z => absurd ⟨fun y => absurd y p, fun y => absurd y q⟩ z⟩)
theorem q_brightest {σ : St} (h : RC σ) (hn : RNs σ) {n : Nat} (hnn : n ≤ tl σ 0) : xbr σ n = mbr σ n := by
  have b0 := h.b.1
  unfold xbr mbr
  refine it_congr (fun i hi x => ?_)
  have e : fsn σ (nI i) (nI i) = msb σ 122 (nI i) (nI i) := q_seen h hn (by omega) (by rw [i_nI (by omega)]; omega) (by rw [i_nI (by omega)]; omega)
  unfold mbB
  rw [e]
  by_cases q : x.2 < msb σ 122 (nI i) (nI i)
  · rw [if_pos q, if_neg (i_lle q)]
  · rw [if_neg q, if_pos (i_nlt q)]
/-! shares, rests, runs of reefs -/
theorem hds_e {σ : St} (h : RC σ) : hds σ (nDo σ) = mhd σ (tl σ 4) := by
  unfold hds mhd nDo; rw [h.m4]; exact sm_congr (fun k hk => h.o hk)
theorem q_share {σ : St} (h : RC σ) {d : Nat} (hd : d < tl σ 4) {n : Int32} (hz : ¬ mhd σ (tl σ 4) = 0) : shr σ (nI d) n = msr σ d n := by
  have e4 : nDo σ = tl σ 4 := by unfold nDo; rw [h.m4]
  unfold shr msr
  rw [hds_e h, e4, h.o hd]
  have c : ∀ x, cutz x (mhd σ (tl σ 4)) = x / mhd σ (tl σ 4) := fun x => if_neg hz
  have l : ∀ x, lft x (mhd σ (tl σ 4)) = x - x / mhd σ (tl σ 4) * mhd σ (tl σ 4) := fun x => if_neg hz
  have eO : shO σ n (mhd σ (tl σ 4)) (tl σ 4) = msO σ n (mhd σ (tl σ 4)) (tl σ 4) := by
    unfold shO msO; exact it_congr (fun k hk x => by rw [c, h.o hk])
  have eB : shB σ (nI d) n (mhd σ (tl σ 4)) (tl σ 4) = msA σ d n (mhd σ (tl σ 4)) (tl σ 4) := by
    unfold shB msA; exact sm_congr (fun k hk => b2_congr (by unfold shA msP; rw [h.o hk, h.o hd, l, l]))
  rw [eO, eB, c]
