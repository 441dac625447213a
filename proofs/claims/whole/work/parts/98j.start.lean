/-! WHAT IS GIVEN AT THE LAW'S ENTRY, and the law from there -/
theorem zcl_ok : ∀ (c : Nat) (q : vw_C), zcl[c]? = some q → (∀ w ∈ u_ws q.1 q.2.1 q.2.2, w ∈ TB) ∧ Cond.instantiable q.1 q.2.2 ∈ TB := fun c q h => by
  match c, h with
  | 0, h => obtain rfl := Option.some.inj h; exact ⟨ck_Coast.2.1, t_75⟩
  | 1, h => obtain rfl := Option.some.inj h; exact ⟨ck_FlashLog.2.1, t_176⟩
  | 2, h => obtain rfl := Option.some.inj h; exact ⟨ck_History.2.1, t_301⟩
  | 3, h => obtain rfl := Option.some.inj h; exact ⟨ck_Law.2.1, t_140⟩
  | 4, h => obtain rfl := Option.some.inj h; exact ⟨ck_Nights.2.1, t_221⟩
  | 5, h => obtain rfl := Option.some.inj h; exact ⟨ck_Passing.2.1, t_235⟩
  | 6, h => obtain rfl := Option.some.inj h; exact ⟨ck_Plans.2.1, t_256⟩
  | 7, h => obtain rfl := Option.some.inj h; exact ⟨ck_Row.2.1, t_39⟩
  | 8, h => obtain rfl := Option.some.inj h; exact ⟨ck_Tape.2.1, t_33⟩
  | 9, h => obtain rfl := Option.some.inj h; exact ⟨ck_Winter.2.1, t_283⟩
  | 10, h => obtain rfl := Option.some.inj h; exact ⟨ck_Work.2.1, t_191⟩
  | 11, h => obtain rfl := Option.some.inj h; exact ⟨ck_DL.2.1, t_25⟩
  | 12, h => obtain rfl := Option.some.inj h; exact ⟨ck_Mo.2.1, t_1400⟩
  | c + 13, h => exact absurd h (by show ¬ (none : Option vw_C) = some q; exact fun z => by cases z)
theorem zD_ex {s : State} {args : Array Value} (h5 : ∀ w ∈ TB, w.before args s = true) : ∃ D : va_G, ∀ (c : Nat) (q : vw_C), zcl[c]? = some q → u_Kn s q.1 q.2.1 q.2.2 (D.1 c) (D.2 c) := by
  have h : ∀ c : Nat, ∃ x : ClassId × (Nat → Nat), ∀ q : vw_C, zcl[c]? = some q → u_Kn s q.1 q.2.1 q.2.2 x.1 x.2 := fun c => by
    cases e : zcl[c]? with
    | none => exact ⟨(0, fun _ => 0), fun q z => by cases z⟩
    | some q =>
      obtain ⟨a, b⟩ := zcl_ok c q e
      obtain ⟨cC, iS, k⟩ := u_known h5 a (h5 _ b)
      exact ⟨(cC, iS), fun q' z => by cases z; exact k⟩
  exact ⟨(fun c => (Classical.choose (h c)).1, fun c => (Classical.choose (h c)).2), fun c q z => Classical.choose_spec (h c) q z⟩
/-- what 'arrays over int[] there are' says -/
theorem zao_of {s : State} {args : Array Value} (h : (Cond.arrayOver (.array .int)).before args s = true) : ∃ (cI cA : ClassId) (k : Class), s.vm.findClass (FieldType.array .int).toString = some cI ∧ s.vm.classes[cA]? = some k ∧ k.kind = .array cI (.array .int) ∧ s.vm.findClass ("[" ++ (FieldType.array .int).toString) = some cA := by
  unfold Cond.before Cond.holds at h
  simp only [Cond.value, beq_iff_eq] at h
  obtain ⟨cI, h1, h2⟩ := Option.bind_eq_some_iff.mp h
  obtain ⟨cA, h3, h4⟩ := Option.bind_eq_some_iff.mp h2
  obtain ⟨k, h5, h6⟩ := Option.map_eq_some_iff.mp h4
  obtain ⟨hlt, hp, -⟩ := Array.findIdx?_eq_some_iff_getElem.mp h3
  have hk : s.vm.classes[cA] = k := (Array.getElem?_eq_some_iff.mp h5).2
  rw [hk] at hp
  cases hkind : k.kind with
  | array comp ty =>
    rw [hkind] at h6 hp
    simp only [Bool.and_eq_true, decide_eq_true_eq, beq_iff_eq] at h6 hp
    exact ⟨cI, cA, k, h1, h5, by rw [hkind, hp, h6.1], h6.2⟩
  | _ => rw [hkind] at h6; exact absurd h6 (by simp)
/-- the classes of the arrays -/
theorem zty_ex {s : State} {args : Array Value} (h1 : (Cond.arrayClass .int).before args s = true) (h2 : (Cond.arrayOver (.array .int)).before args s = true) : ∃ cI cA : ClassId, (ArrOfT s cI .int ∧ va_RA s cI .int) ∧ (ArrOfT s cA (.array .int) ∧ va_RA s cA (.array .int)) ∧ ∃ k : Class, s.vm.classes[cA]? = some k ∧ k.kind = .array cI (.array .int) := by
  obtain ⟨cI, kI, comp, a1, a2, a3⟩ := Cond.arrayClass_spec h1
  obtain ⟨cI', cA, k, b1, b2, b3, b4⟩ := zao_of h2
  have e : cI' = cI := Option.some.inj (b1.symm.trans a1)
  subst e
  exact ⟨cI', cA, ⟨fun n z => ⟨fun k h => (by cases h), kI, a2, comp, a3⟩, a1⟩, ⟨fun n z => ⟨fun k h => (by cases h), k, b2, cI', b3⟩, b4⟩, k, b2, b3⟩
def ztm (i : Nat) : Term := match i with
  | 0 => .string "DonkeyLight" 397
  | 1 => .string "DonkeyLight$Coast" 78
  | 2 => .string "DonkeyLight$Law" 112
  | 3 => .string "DonkeyLight$Work" 63
  | _ => .string "DonkeyLight" 390
