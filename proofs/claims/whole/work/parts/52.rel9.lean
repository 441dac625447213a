/-! ===== fits: how many, the first ===== -/
def orE : Option Int32 → Option Int32 → Option Int32
  | some v, _ => some v
  | none, p => p
theorem orE_n {a : Option Int32} : orE a none = a := by cases a <;> rfl
theorem orE_a {a b c : Option Int32} : orE (orE a b) c = orE a (orE b c) := by cases a <;> rfl
theorem fnd_o {f : Nat → Option Int32} {n : Nat} : fnd f (n + 1) = orE (fnd f n) (f n) := by
  cases hc : fnd f n with
  | none => exact fnd_s hc
  | some x => exact fnd_n hc
/-- count x.1 and first x.2 of the reference; o: the class's first -/
def cf (B : Int) (x : Int32 × Int32) (c : Int32) (o : Option Int32) : Prop := c = x.1 ∧ x.2 = o.getD (-1) ∧ (x.1 = 0 ↔ o = none) ∧ 0 ≤ x.1.toInt ∧ x.1.toInt ≤ B
theorem cf_no {B : Int} {x : Int32 × Int32} {c : Int32} {o : Option Int32} (h : cf B x c o) : cf (B + 1) x (c + 0) (orE o none) := by
  rw [orE_n, Int32.add_zero]; exact ⟨h.1, h.2.1, h.2.2.1, h.2.2.2.1, by have := h.2.2.2.2; omega⟩
theorem cf_yes {B : Int} {x : Int32 × Int32} {c v : Int32} {o : Option Int32} (h : cf B x c o) (hB : B < 100000) : cf (B + 1) (x.1 + 1, if x.1 = 0 then v else x.2) (c + 1) (orE o (some v)) := by
  obtain ⟨h1, h2, h3, h4, h5⟩ := h
  have e : (x.1 + 1).toInt = x.1.toInt + 1 := i_add rfl rfl (by omega) (by omega)
  have z0 : (0 : Int32).toInt = 0 := rfl
  have hne : ¬ x.1 + 1 = 0 := fun z => by rw [z, z0] at e; omega
  refine ⟨by rw [h1], ?_, ?_, by show 0 ≤ (x.1 + 1).toInt; omega, by show (x.1 + 1).toInt ≤ _; omega⟩
  · by_cases q : x.1 = 0
    · have ho := h3.mp q
      subst ho
      show (if x.1 = 0 then v else x.2) = _
      rw [if_pos q]; rfl
    · show (if x.1 = 0 then v else x.2) = _
      rw [if_neg q, h2]
      cases o with
      | none => exact absurd (h3.mpr rfl) q
      | some y => rfl
  · constructor
    · intro z; exact absurd z hne
    · intro z
      cases o with
      | none => exact absurd z (by simp [orE])
      | some y => exact absurd z (by simp [orE])
theorem ft_in {s t : St} (h : RG s t) {i : Nat} (hi : i < 9) {B : Int} (hB : 0 ≤ B ∧ B ≤ 1000) {x : Int32 × Int32} {c : Int32} {o : Option Int32} (hx : cf B x c o) : ∀ (j : Nat), j ≤ 10 → cf (B + (j : Int)) (mfA t i j x) (ftA s i j c) (orE o (fnd (ffA s i) j)) := by
  intro j
  induction j with
  | zero =>
    intro _
    have hB0 : B + ((0 : Nat) : Int) = B := by omega
    rw [hB0]
    show cf B x c (orE o none)
    rw [orE_n]; exact hx
  | succ j ih =>
    intro hj
    have g := ih (by omega)
    have eB : B + ((j + 1 : Nat) : Int) = B + j + 1 := by omega
    have eA : ftA s i (j + 1) c = ftA s i j c + b2 (fit s (nI (i + 1)) (nI j)) := rfl
    have eM : mfA t i (j + 1) x = ftm t i j (mfA t i j x) := rfl
    have hf := fit_e h (p := nI (i + 1)) (a := nI j) (nI_nz (by omega))
    rw [eB, eA, eM, fnd_o, ← orE_a]
    unfold ftm ffA
    by_cases q : mlgA t (nI (i + 1)) (nI j)
    · rw [if_neg (fun z => b2_z z q), b2_t (hf.mpr q), if_pos (hf.mpr q)]
      exact cf_yes g (by omega)
    · rw [if_pos (b2_f q), b2_f (fun z => q (hf.mp z)), if_neg (fun z => q (hf.mp z))]
      exact cf_no g
theorem ft_out {s t : St} (h : RG s t) : ∀ (n : Nat), n ≤ 9 → cf (10 * (n : Int)) (mft t n) (ftP s n) (fnd (ffP s) n) := by
  intro n
  induction n with
  | zero => intro _; exact ⟨rfl, rfl, ⟨fun _ => rfl, fun _ => rfl⟩, (show 0 ≤ (0 : Int32).toInt by decide), (show (0 : Int32).toInt ≤ 10 * ((0 : Nat) : Int) by decide)⟩
  | succ n ih =>
    intro hn
    have g := ft_in h (show n < 9 by omega) (B := 10 * n) ⟨by omega, by omega⟩ (ih (by omega)) (n + 1) (by omega)
    rw [fnd_o]
    have eP : ffP s n = fnd (ffA s n) (n + 1) := rfl
    rw [eP]
    obtain ⟨a, b, c, d, e⟩ := g
    exact ⟨a, b, c, d, Int.le_trans e (by omega)⟩
theorem q_fits {s t : St} (h : RG s t) {w : Int32} : (if w = 0 then ftP s 9 else ffF s) = mfs t w := by
  obtain ⟨a, b, -⟩ := ft_out h 9 (Nat.le_refl _)
  unfold mfs ffF
  rw [a, b]
