/-! THE LAW'S LAYER: the world, and beside it the array 'out' of one long; cells made are counted. -/
abbrev zout (cL : ClassId) (v : Int64) : va_E := .inl (cL, 1, .inr (.inl (fun _ => v)))
def zwo (G : Gz) (σ : St) (ao : Nat) (cL : ClassId) (v : Int64) : va_W := zw G σ ++ [(ao, zout cL v)]
theorem zw_len (G : Gz) (σ : St) : (zw G σ).length = 610 := by simp [zw]
theorem zwo_get {G : Gz} {σ : St} {ao : Nat} {cL : ClassId} {v : Int64} {o : Nat} {e : va_E} (h : o < 610) (he : zs G o (σ o) = e) : (zwo G σ ao cL v)[o]? = some (G.1 o, e) := by
  unfold zwo
  rw [List.getElem?_append_left (by rw [zw_len]; exact h)]
  exact zw_get' h he
theorem zwo_out {G : Gz} {σ : St} {ao : Nat} {cL : ClassId} {v : Int64} : (zwo G σ ao cL v)[610]? = some (ao, zout cL v) := by
  unfold zwo
  rw [List.getElem?_append_right (by rw [zw_len]; exact Nat.le_refl _), zw_len]
  rfl
theorem zwo_inv {G : Gz} {σ : St} {ao : Nat} {cL : ClassId} {v : Int64} {i : Nat} {q : Nat × va_E} (h : (zwo G σ ao cL v)[i]? = some q) : (i < 610 ∧ q = (G.1 i, zs G i (σ i))) ∨ (i = 610 ∧ q = (ao, zout cL v)) := by
  unfold zwo at h
  by_cases hi : i < 610
  · rw [List.getElem?_append_left (by rw [zw_len]; exact hi)] at h
    exact Or.inl (zw_inv h)
  · rw [List.getElem?_append_right (by rw [zw_len]; exact Nat.le_of_not_lt hi), zw_len] at h
    have hz : i - 610 < 1 := (List.getElem?_eq_some_iff.mp h).1
    have h6 : i = 610 := by omega
    subst h6
    rw [show 610 - 610 = 0 from rfl] at h
    exact Or.inr ⟨rfl, (Option.some.inj h).symm⟩
theorem zwo_set {G : Gz} {σ : St} {ao : Nat} {cL : ClassId} {v v' : Int64} : (zwo G σ ao cL v).set 610 (ao, zout cL v') = zwo G σ ao cL v' := by
  unfold zwo
  rw [List.set_append_right _ _ (by rw [zw_len]; exact Nat.le_refl _), zw_len]
  rfl
/-- out is none of the objects; A holds them all, and what is new -/
def zap (G : Gz) (ao : Nat) (A : Nat → Prop) (sz : Nat) : Prop := (∀ o, o < 610 → A (G.1 o) ∧ G.1 o ≠ ao) ∧ A ao ∧ ∀ q, sz ≤ q → A q
theorem zwo_D {G : Gz} (h : zI G) {A : Nat → Prop} {sz ao : Nat} (ha : zap G ao A sz) (σ : St) (cL : ClassId) (v : Int64) : va_D A (zwo G σ ao cL v) := by
  refine ⟨fun i j p q hp hq e => ?_, fun k q hq => ?_⟩
  · rcases zwo_inv hp with ⟨h1, rfl⟩ | ⟨h1, rfl⟩ <;> rcases zwo_inv hq with ⟨h2, rfl⟩ | ⟨h2, rfl⟩
    · exact h i j h1 h2 e
    · exact absurd e (ha.1 i h1).2
    · exact absurd e.symm (ha.1 j h2).2
    · rw [h1, h2]
  · rcases zwo_inv hq with ⟨h1, rfl⟩ | ⟨h1, rfl⟩
    · exact (ha.1 k h1).1
    · exact ha.2.1
theorem zwo_P {D : va_G} {cl : List vw_C} {G : Gz} {σ : St} {ao : Nat} {cL : ClassId} {v : Int64} {H : Heap} (h : va_P D cl (zwo G σ ao cL v) H) : va_P D cl (zw G σ) H := fun k q hq => by
  obtain ⟨h1, rfl⟩ := zw_inv hq
  exact h k _ (zwo_get h1 rfl)
theorem zwo_back {D : va_G} {cl : List vw_C} {G : Gz} {σ σ' : St} {ao : Nat} {cL : ClassId} {v : Int64} {H H1 : Heap} (h : va_P D cl (zwo G σ ao cL v) H) (h1 : va_P D cl (zw G σ') H1) (hk : H1[ao]? = H[ao]?) : va_P D cl (zwo G σ' ao cL v) H1 := fun k q hq => by
  rcases zwo_inv hq with ⟨h2, rfl⟩ | ⟨h2, rfl⟩
  · exact h1 k _ (zw_get h2)
  · exact (h 610 _ zwo_out).kept hk
abbrev ztyo (G : Gz) (cL : ClassId) : List (ClassId × FieldType) := ztys G ++ [(cL, .long)]
theorem zK_of {G : Gz} {cL : ClassId} {U : State} (h : va_K G.2.1 zcl (ztyo G cL) U) : va_K G.2.1 zcl (ztys G) U := ⟨h.1, fun k q hq => h.2 k q (by rw [List.getElem?_append_left (List.getElem?_eq_some_iff.mp hq).1]; exact hq)⟩
/-- a method's surroundings, in the law's file -/
def Go (G : Gz) (ao : Nat) (cL : ClassId) (A : Nat → Prop) (X : Cx) (b : ByteArray) (nL : Nat) (own : String) (k : Nat) : Prop :=
  (xp X).tables.exec = Jvm.exec ∧ (xc X).code = b ∧ (xc X).maxLocals = nL ∧ (xs X).vm.findClass own = some (xm X).cls ∧ (∀ w ∈ TB, w.before (xa X) (xs X) = true) ∧ (xh X).locks = false ∧ Rm (xR X) k ∧
  va_K G.2.1 zcl (ztyo G cL) (xs X) ∧ zI G ∧ zX G A (xs X) (xs X).heap ∧ zap G ao A (xs X).heap.size
def JO (l : Launch) (G : Gz) (ao : Nat) (cL : ClassId) (A : Nat → Prop) (X : Cx) (nL : Nat) (σ : St) (w9 : Int64) (c9 n9 : Nat) (pc : Nat) (ls : List (Nat × Value)) (st : List Value) : Prop :=
  ∀ (H : Heap) (locs : List Loc) (la : Array Slot), va_P G.2.1 zcl (zwo G σ ao cL w9) H → va_S A (xs X).heap H locs → lv_has la nL ls → W (xp X) l (xe X) (xR X) (xs X) (xm X) (xa X) (xb X) (xh X) (xc X) H locs c9 n9 (xQ X) (F0 (xm X) pc la st)
section JORULES
variable {l : Launch} {G : Gz} {ao : Nat} {cL : ClassId} {A : Nat → Prop} {X : Cx} {b : ByteArray} {nL k pc : Nat} {own : String} {σ σ' : St} {w9 : Int64} {c9 n9 : Nat} {ls ls' : List (Nat × Value)} {st : List Value}
theorem JO.wide {c' n' : Nat} (h1 : c9 ≤ c') (h2 : n9 ≤ n') (K : JO l G ao cL A X nL σ w9 c' n' pc ls st) : JO l G ao cL A X nL σ w9 c9 n9 pc ls st := fun H locs la hp hs hl T hT X => K H locs la hp hs hl T hT (stand_widen X h1 h2)
theorem JO.lsub (ks : List Nat) (h : lv_pick ls ks = ls') (K : JO l G ao cL A X nL σ w9 c9 n9 pc ls' st) : JO l G ao cL A X nL σ w9 c9 n9 pc ls st := fun H locs la hp hs hl => K H locs la hp hs (lv_sub hl ks h)
theorem JO.to {pc' : Nat} {w' : Int64} {st' : List Value} (h : pc = pc') (h1 : σ = σ') (h2 : w9 = w') (h3 : ls = ls') (h4 : st = st') (K : JO l G ao cL A X nL σ' w' c9 n9 pc' ls' st') : JO l G ao cL A X nL σ w9 c9 n9 pc ls st := by
  subst h; subst h1; subst h2; subst h3; subst h4; exact K
theorem jo_iconst (hx : Go G ao cL A X b nL own k) {n : Int} {v : Int32} (hdg : decode b pc = .ok (.iconst n, 1)) (hv : Int32.ofInt n = v)     (K : JO l G ao cL A X nL σ w9 c9 n9 (pc + 1) ls (.int v :: st)) : JO l G ao cL A X nL σ w9 c9 n9 pc ls (st) := fun H locs la hp hs hl => lv_iconst hx.1 hx.2.1 hdg hv (K H locs la hp hs hl)
theorem jo_bipush (hx : Go G ao cL A X b nL own k) {n : Int} {v : Int32} (hdg : decode b pc = .ok (.bipush n, 2)) (hv : (Int8.ofInt n).toInt32 = v)     (K : JO l G ao cL A X nL σ w9 c9 n9 (pc + 2) ls (.int v :: st)) : JO l G ao cL A X nL σ w9 c9 n9 pc ls (st) := fun H locs la hp hs hl => lv_bipush hx.1 hx.2.1 hdg hv (K H locs la hp hs hl)
theorem jo_sipush (hx : Go G ao cL A X b nL own k) {n : Int} {v : Int32} (hdg : decode b pc = .ok (.sipush n, 3)) (hv : (Int16.ofInt n).toInt32 = v)     (K : JO l G ao cL A X nL σ w9 c9 n9 (pc + 3) ls (.int v :: st)) : JO l G ao cL A X nL σ w9 c9 n9 pc ls (st) := fun H locs la hp hs hl => lv_sipush hx.1 hx.2.1 hdg hv (K H locs la hp hs hl)
theorem jo_lconst (hx : Go G ao cL A X b nL own k) {n : Fin 2} {v : Int64} (hdg : decode b pc = .ok (.lconst n, 1)) (hv : Int64.ofNat (n : Nat) = v)     (K : JO l G ao cL A X nL σ w9 c9 n9 (pc + 1) ls (.long v :: st)) : JO l G ao cL A X nL σ w9 c9 n9 pc ls (st) := fun H locs la hp hs hl => lv_lconst hx.1 hx.2.1 hdg hv (K H locs la hp hs hl)
theorem jo_iadd (hx : Go G ao cL A X b nL own k) {x y : Int32} (hdg : decode b pc = .ok (.iadd, 1))      (K : JO l G ao cL A X nL σ w9 c9 n9 (pc + 1) ls (.int (x + y) :: st)) : JO l G ao cL A X nL σ w9 c9 n9 pc ls (.int y :: .int x :: st) := fun H locs la hp hs hl => lv_iadd hx.1 hx.2.1 hdg (K H locs la hp hs hl)
theorem jo_isub (hx : Go G ao cL A X b nL own k) {x y : Int32} (hdg : decode b pc = .ok (.isub, 1))      (K : JO l G ao cL A X nL σ w9 c9 n9 (pc + 1) ls (.int (x - y) :: st)) : JO l G ao cL A X nL σ w9 c9 n9 pc ls (.int y :: .int x :: st) := fun H locs la hp hs hl => lv_isub hx.1 hx.2.1 hdg (K H locs la hp hs hl)
theorem jo_imul (hx : Go G ao cL A X b nL own k) {x y : Int32} (hdg : decode b pc = .ok (.imul, 1))      (K : JO l G ao cL A X nL σ w9 c9 n9 (pc + 1) ls (.int (x * y) :: st)) : JO l G ao cL A X nL σ w9 c9 n9 pc ls (.int y :: .int x :: st) := fun H locs la hp hs hl => lv_imul hx.1 hx.2.1 hdg (K H locs la hp hs hl)
theorem jo_idiv (hx : Go G ao cL A X b nL own k) {x y : Int32} (hdg : decode b pc = .ok (.idiv, 1)) (hne : ¬ y = 0)     (K : JO l G ao cL A X nL σ w9 c9 n9 (pc + 1) ls (.int (x / y) :: st)) : JO l G ao cL A X nL σ w9 c9 n9 pc ls (.int y :: .int x :: st) := fun H locs la hp hs hl => lv_idiv hx.1 hx.2.1 hdg hne (K H locs la hp hs hl)
theorem jo_irem (hx : Go G ao cL A X b nL own k) {x y : Int32} (hdg : decode b pc = .ok (.irem, 1)) (hne : ¬ y = 0)     (K : JO l G ao cL A X nL σ w9 c9 n9 (pc + 1) ls (.int (x - x / y * y) :: st)) : JO l G ao cL A X nL σ w9 c9 n9 pc ls (.int y :: .int x :: st) := fun H locs la hp hs hl => lv_irem hx.1 hx.2.1 hdg hne (K H locs la hp hs hl)
theorem jo_ineg (hx : Go G ao cL A X b nL own k) {x : Int32} (hdg : decode b pc = .ok (.ineg, 1))      (K : JO l G ao cL A X nL σ w9 c9 n9 (pc + 1) ls (.int (-x) :: st)) : JO l G ao cL A X nL σ w9 c9 n9 pc ls (.int x :: st) := fun H locs la hp hs hl => lv_ineg hx.1 hx.2.1 hdg (K H locs la hp hs hl)
theorem jo_ishl (hx : Go G ao cL A X b nL own k) {x y : Int32} (hdg : decode b pc = .ok (.ishl, 1))      (K : JO l G ao cL A X nL σ w9 c9 n9 (pc + 1) ls (.int (x <<< (y &&& 31)) :: st)) : JO l G ao cL A X nL σ w9 c9 n9 pc ls (.int y :: .int x :: st) := fun H locs la hp hs hl => lv_ishl hx.1 hx.2.1 hdg (K H locs la hp hs hl)
theorem jo_ishr (hx : Go G ao cL A X b nL own k) {x y : Int32} (hdg : decode b pc = .ok (.ishr, 1))      (K : JO l G ao cL A X nL σ w9 c9 n9 (pc + 1) ls (.int (x >>> (y &&& 31)) :: st)) : JO l G ao cL A X nL σ w9 c9 n9 pc ls (.int y :: .int x :: st) := fun H locs la hp hs hl => lv_ishr hx.1 hx.2.1 hdg (K H locs la hp hs hl)
theorem jo_iushr (hx : Go G ao cL A X b nL own k) {x y v : Int32} (hdg : decode b pc = .ok (.iushr, 1)) (hv : (x.toUInt32 >>> (y.toUInt32 &&& Int32.toUInt32 31)).toInt32 = v)     (K : JO l G ao cL A X nL σ w9 c9 n9 (pc + 1) ls (.int v :: st)) : JO l G ao cL A X nL σ w9 c9 n9 pc ls (.int y :: .int x :: st) := fun H locs la hp hs hl => lv_iushr hx.1 hx.2.1 hdg hv (K H locs la hp hs hl)
theorem jo_iand (hx : Go G ao cL A X b nL own k) {x y : Int32} (hdg : decode b pc = .ok (.iand, 1))      (K : JO l G ao cL A X nL σ w9 c9 n9 (pc + 1) ls (.int (x &&& y) :: st)) : JO l G ao cL A X nL σ w9 c9 n9 pc ls (.int y :: .int x :: st) := fun H locs la hp hs hl => lv_iand hx.1 hx.2.1 hdg (K H locs la hp hs hl)
theorem jo_ior (hx : Go G ao cL A X b nL own k) {x y : Int32} (hdg : decode b pc = .ok (.ior, 1))      (K : JO l G ao cL A X nL σ w9 c9 n9 (pc + 1) ls (.int (x ||| y) :: st)) : JO l G ao cL A X nL σ w9 c9 n9 pc ls (.int y :: .int x :: st) := fun H locs la hp hs hl => lv_ior hx.1 hx.2.1 hdg (K H locs la hp hs hl)
theorem jo_ixor (hx : Go G ao cL A X b nL own k) {x y : Int32} (hdg : decode b pc = .ok (.ixor, 1))      (K : JO l G ao cL A X nL σ w9 c9 n9 (pc + 1) ls (.int (x ^^^ y) :: st)) : JO l G ao cL A X nL σ w9 c9 n9 pc ls (.int y :: .int x :: st) := fun H locs la hp hs hl => lv_ixor hx.1 hx.2.1 hdg (K H locs la hp hs hl)
theorem jo_i2l (hx : Go G ao cL A X b nL own k) {x : Int32} {v : Int64} (hdg : decode b pc = .ok (.i2l, 1)) (hv : x.toInt64 = v)     (K : JO l G ao cL A X nL σ w9 c9 n9 (pc + 1) ls (.long v :: st)) : JO l G ao cL A X nL σ w9 c9 n9 pc ls (.int x :: st) := fun H locs la hp hs hl => lv_i2l hx.1 hx.2.1 hdg hv (K H locs la hp hs hl)
theorem jo_ladd (hx : Go G ao cL A X b nL own k) {x y : Int64} (hdg : decode b pc = .ok (.ladd, 1))      (K : JO l G ao cL A X nL σ w9 c9 n9 (pc + 1) ls (.long (x + y) :: st)) : JO l G ao cL A X nL σ w9 c9 n9 pc ls (.long y :: .long x :: st) := fun H locs la hp hs hl => lv_ladd hx.1 hx.2.1 hdg (K H locs la hp hs hl)
theorem jo_lmul (hx : Go G ao cL A X b nL own k) {x y : Int64} (hdg : decode b pc = .ok (.lmul, 1))      (K : JO l G ao cL A X nL σ w9 c9 n9 (pc + 1) ls (.long (x * y) :: st)) : JO l G ao cL A X nL σ w9 c9 n9 pc ls (.long y :: .long x :: st) := fun H locs la hp hs hl => lv_lmul hx.1 hx.2.1 hdg (K H locs la hp hs hl)
theorem jo_ldiv (hx : Go G ao cL A X b nL own k) {x y : Int64} (hdg : decode b pc = .ok (.ldiv, 1)) (hne : ¬ y = 0)     (K : JO l G ao cL A X nL σ w9 c9 n9 (pc + 1) ls (.long (x / y) :: st)) : JO l G ao cL A X nL σ w9 c9 n9 pc ls (.long y :: .long x :: st) := fun H locs la hp hs hl => lv_ldiv hx.1 hx.2.1 hdg hne (K H locs la hp hs hl)
theorem jo_lrem (hx : Go G ao cL A X b nL own k) {x y : Int64} (hdg : decode b pc = .ok (.lrem, 1)) (hne : ¬ y = 0)     (K : JO l G ao cL A X nL σ w9 c9 n9 (pc + 1) ls (.long (x - x / y * y) :: st)) : JO l G ao cL A X nL σ w9 c9 n9 pc ls (.long y :: .long x :: st) := fun H locs la hp hs hl => lv_lrem hx.1 hx.2.1 hdg hne (K H locs la hp hs hl)
theorem jo_dup (hx : Go G ao cL A X b nL own k) {va : Value} (hdg : decode b pc = .ok (.dup, 1)) (hva : va.category = 1)     (K : JO l G ao cL A X nL σ w9 c9 n9 (pc + 1) ls (va :: va :: st)) : JO l G ao cL A X nL σ w9 c9 n9 pc ls (va :: st) := fun H locs la hp hs hl => lv_dup hx.1 hx.2.1 hdg hva (K H locs la hp hs hl)
theorem jo_dup2_11 (hx : Go G ao cL A X b nL own k) {va vb : Value} (hdg : decode b pc = .ok (.dup2, 1)) (hva : va.category = 1) (hvb : vb.category = 1)     (K : JO l G ao cL A X nL σ w9 c9 n9 (pc + 1) ls (va :: vb :: va :: vb :: st)) : JO l G ao cL A X nL σ w9 c9 n9 pc ls (va :: vb :: st) := fun H locs la hp hs hl => lv_dup2_11 hx.1 hx.2.1 hdg hva hvb (K H locs la hp hs hl)
theorem jo_pop (hx : Go G ao cL A X b nL own k) {va : Value} (hdg : decode b pc = .ok (.pop, 1)) (hva : va.category = 1)     (K : JO l G ao cL A X nL σ w9 c9 n9 (pc + 1) ls (st)) : JO l G ao cL A X nL σ w9 c9 n9 pc ls (va :: st) := fun H locs la hp hs hl => lv_pop hx.1 hx.2.1 hdg hva (K H locs la hp hs hl)
theorem jo_i2c (hx : Go G ao cL A X b nL own k) {x : Int32} {v : Int32} (hdg : decode b pc = .ok (.i2c, 1)) (hv : (x.toUInt32 % 65536).toInt32 = v)     (K : JO l G ao cL A X nL σ w9 c9 n9 (pc + 1) ls (.int v :: st)) : JO l G ao cL A X nL σ w9 c9 n9 pc ls (.int x :: st) := fun H locs la hp hs hl => lv_i2c hx.1 hx.2.1 hdg hv (K H locs la hp hs hl)
theorem jo_if_eq (hx : Go G ao cL A X b nL own k) {x : Int32} {off : Int} {tgt : Nat} (hdg : decode b pc = .ok (.ifCond .eq off, 3)) (ht : (pc : Int) + off = (tgt : Int))     (kt : x = 0 → JO l G ao cL A X nL σ w9 c9 n9 tgt ls st) (kf : ¬ x = 0 → JO l G ao cL A X nL σ w9 c9 n9 (pc + 3) ls st) : JO l G ao cL A X nL σ w9 c9 n9 pc ls (.int x :: st) := fun H locs la hp hs hl => lv_if_eq hx.1 hx.2.1 hdg ht (fun c9 => kt c9 H locs la hp hs hl) (fun c9 => kf c9 H locs la hp hs hl)
theorem jo_if_ne (hx : Go G ao cL A X b nL own k) {x : Int32} {off : Int} {tgt : Nat} (hdg : decode b pc = .ok (.ifCond .ne off, 3)) (ht : (pc : Int) + off = (tgt : Int))     (kt : ¬ x = 0 → JO l G ao cL A X nL σ w9 c9 n9 tgt ls st) (kf : x = 0 → JO l G ao cL A X nL σ w9 c9 n9 (pc + 3) ls st) : JO l G ao cL A X nL σ w9 c9 n9 pc ls (.int x :: st) := fun H locs la hp hs hl => lv_if_ne hx.1 hx.2.1 hdg ht (fun c9 => kt c9 H locs la hp hs hl) (fun c9 => kf c9 H locs la hp hs hl)
theorem jo_if_lt (hx : Go G ao cL A X b nL own k) {x : Int32} {off : Int} {tgt : Nat} (hdg : decode b pc = .ok (.ifCond .lt off, 3)) (ht : (pc : Int) + off = (tgt : Int))     (kt : x < 0 → JO l G ao cL A X nL σ w9 c9 n9 tgt ls st) (kf : ¬ x < 0 → JO l G ao cL A X nL σ w9 c9 n9 (pc + 3) ls st) : JO l G ao cL A X nL σ w9 c9 n9 pc ls (.int x :: st) := fun H locs la hp hs hl => lv_if_lt hx.1 hx.2.1 hdg ht (fun c9 => kt c9 H locs la hp hs hl) (fun c9 => kf c9 H locs la hp hs hl)
theorem jo_if_ge (hx : Go G ao cL A X b nL own k) {x : Int32} {off : Int} {tgt : Nat} (hdg : decode b pc = .ok (.ifCond .ge off, 3)) (ht : (pc : Int) + off = (tgt : Int))     (kt : 0 ≤ x → JO l G ao cL A X nL σ w9 c9 n9 tgt ls st) (kf : ¬ 0 ≤ x → JO l G ao cL A X nL σ w9 c9 n9 (pc + 3) ls st) : JO l G ao cL A X nL σ w9 c9 n9 pc ls (.int x :: st) := fun H locs la hp hs hl => lv_if_ge hx.1 hx.2.1 hdg ht (fun c9 => kt c9 H locs la hp hs hl) (fun c9 => kf c9 H locs la hp hs hl)
theorem jo_if_gt (hx : Go G ao cL A X b nL own k) {x : Int32} {off : Int} {tgt : Nat} (hdg : decode b pc = .ok (.ifCond .gt off, 3)) (ht : (pc : Int) + off = (tgt : Int))     (kt : 0 < x → JO l G ao cL A X nL σ w9 c9 n9 tgt ls st) (kf : ¬ 0 < x → JO l G ao cL A X nL σ w9 c9 n9 (pc + 3) ls st) : JO l G ao cL A X nL σ w9 c9 n9 pc ls (.int x :: st) := fun H locs la hp hs hl => lv_if_gt hx.1 hx.2.1 hdg ht (fun c9 => kt c9 H locs la hp hs hl) (fun c9 => kf c9 H locs la hp hs hl)
theorem jo_if_le (hx : Go G ao cL A X b nL own k) {x : Int32} {off : Int} {tgt : Nat} (hdg : decode b pc = .ok (.ifCond .le off, 3)) (ht : (pc : Int) + off = (tgt : Int))     (kt : x ≤ 0 → JO l G ao cL A X nL σ w9 c9 n9 tgt ls st) (kf : ¬ x ≤ 0 → JO l G ao cL A X nL σ w9 c9 n9 (pc + 3) ls st) : JO l G ao cL A X nL σ w9 c9 n9 pc ls (.int x :: st) := fun H locs la hp hs hl => lv_if_le hx.1 hx.2.1 hdg ht (fun c9 => kt c9 H locs la hp hs hl) (fun c9 => kf c9 H locs la hp hs hl)
theorem jo_icmp_eq (hx : Go G ao cL A X b nL own k) {x y : Int32} {off : Int} {tgt : Nat} (hdg : decode b pc = .ok (.if_icmp .eq off, 3)) (ht : (pc : Int) + off = (tgt : Int))     (kt : x = y → JO l G ao cL A X nL σ w9 c9 n9 tgt ls st) (kf : ¬ x = y → JO l G ao cL A X nL σ w9 c9 n9 (pc + 3) ls st) : JO l G ao cL A X nL σ w9 c9 n9 pc ls (.int y :: .int x :: st) := fun H locs la hp hs hl => lv_icmp_eq hx.1 hx.2.1 hdg ht (fun c9 => kt c9 H locs la hp hs hl) (fun c9 => kf c9 H locs la hp hs hl)
theorem jo_icmp_ne (hx : Go G ao cL A X b nL own k) {x y : Int32} {off : Int} {tgt : Nat} (hdg : decode b pc = .ok (.if_icmp .ne off, 3)) (ht : (pc : Int) + off = (tgt : Int))     (kt : ¬ x = y → JO l G ao cL A X nL σ w9 c9 n9 tgt ls st) (kf : x = y → JO l G ao cL A X nL σ w9 c9 n9 (pc + 3) ls st) : JO l G ao cL A X nL σ w9 c9 n9 pc ls (.int y :: .int x :: st) := fun H locs la hp hs hl => lv_icmp_ne hx.1 hx.2.1 hdg ht (fun c9 => kt c9 H locs la hp hs hl) (fun c9 => kf c9 H locs la hp hs hl)
theorem jo_icmp_lt (hx : Go G ao cL A X b nL own k) {x y : Int32} {off : Int} {tgt : Nat} (hdg : decode b pc = .ok (.if_icmp .lt off, 3)) (ht : (pc : Int) + off = (tgt : Int))     (kt : x < y → JO l G ao cL A X nL σ w9 c9 n9 tgt ls st) (kf : ¬ x < y → JO l G ao cL A X nL σ w9 c9 n9 (pc + 3) ls st) : JO l G ao cL A X nL σ w9 c9 n9 pc ls (.int y :: .int x :: st) := fun H locs la hp hs hl => lv_icmp_lt hx.1 hx.2.1 hdg ht (fun c9 => kt c9 H locs la hp hs hl) (fun c9 => kf c9 H locs la hp hs hl)
theorem jo_icmp_ge (hx : Go G ao cL A X b nL own k) {x y : Int32} {off : Int} {tgt : Nat} (hdg : decode b pc = .ok (.if_icmp .ge off, 3)) (ht : (pc : Int) + off = (tgt : Int))     (kt : y ≤ x → JO l G ao cL A X nL σ w9 c9 n9 tgt ls st) (kf : ¬ y ≤ x → JO l G ao cL A X nL σ w9 c9 n9 (pc + 3) ls st) : JO l G ao cL A X nL σ w9 c9 n9 pc ls (.int y :: .int x :: st) := fun H locs la hp hs hl => lv_icmp_ge hx.1 hx.2.1 hdg ht (fun c9 => kt c9 H locs la hp hs hl) (fun c9 => kf c9 H locs la hp hs hl)
theorem jo_icmp_gt (hx : Go G ao cL A X b nL own k) {x y : Int32} {off : Int} {tgt : Nat} (hdg : decode b pc = .ok (.if_icmp .gt off, 3)) (ht : (pc : Int) + off = (tgt : Int))     (kt : y < x → JO l G ao cL A X nL σ w9 c9 n9 tgt ls st) (kf : ¬ y < x → JO l G ao cL A X nL σ w9 c9 n9 (pc + 3) ls st) : JO l G ao cL A X nL σ w9 c9 n9 pc ls (.int y :: .int x :: st) := fun H locs la hp hs hl => lv_icmp_gt hx.1 hx.2.1 hdg ht (fun c9 => kt c9 H locs la hp hs hl) (fun c9 => kf c9 H locs la hp hs hl)
theorem jo_icmp_le (hx : Go G ao cL A X b nL own k) {x y : Int32} {off : Int} {tgt : Nat} (hdg : decode b pc = .ok (.if_icmp .le off, 3)) (ht : (pc : Int) + off = (tgt : Int))     (kt : x ≤ y → JO l G ao cL A X nL σ w9 c9 n9 tgt ls st) (kf : ¬ x ≤ y → JO l G ao cL A X nL σ w9 c9 n9 (pc + 3) ls st) : JO l G ao cL A X nL σ w9 c9 n9 pc ls (.int y :: .int x :: st) := fun H locs la hp hs hl => lv_icmp_le hx.1 hx.2.1 hdg ht (fun c9 => kt c9 H locs la hp hs hl) (fun c9 => kf c9 H locs la hp hs hl)
theorem jo_goto (hx : Go G ao cL A X b nL own k) {off : Int} {tgt : Nat} (hdg : decode b pc = .ok (.goto off, 3)) (ht : (pc : Int) + off = (tgt : Int)) (K : JO l G ao cL A X nL σ w9 c9 n9 tgt ls st) : JO l G ao cL A X nL σ w9 c9 n9 pc ls st := fun H locs la hp hs hl => lv_goto hx.1 hx.2.1 hdg ht (K H locs la hp hs hl)
theorem jo_tableIn (hx : Go G ao cL A X b nL own k) {dflt lo hi : Int} {offs : Array Int} {len : Nat} {x : Int32} {off : Int} {tgt : Nat} (hdg : decode b pc = .ok (.tableswitch dflt lo hi offs, len)) (h1 : ¬ x.toInt < lo) (h2 : ¬ hi < x.toInt) (ho : offs[(x.toInt - lo).toNat]? = some off) (ht : (pc : Int) + off = (tgt : Int))     (K : JO l G ao cL A X nL σ w9 c9 n9 tgt ls st) : JO l G ao cL A X nL σ w9 c9 n9 pc ls (.int x :: st) := fun H locs la hp hs hl => lv_tableIn hx.1 hx.2.1 hdg h1 h2 ho ht (K H locs la hp hs hl)
theorem jo_tableOut (hx : Go G ao cL A X b nL own k) {dflt lo hi : Int} {offs : Array Int} {len : Nat} {x : Int32} {tgt : Nat} (hdg : decode b pc = .ok (.tableswitch dflt lo hi offs, len)) (h : x.toInt < lo ∨ hi < x.toInt) (ht : (pc : Int) + dflt = (tgt : Int))     (K : JO l G ao cL A X nL σ w9 c9 n9 tgt ls st) : JO l G ao cL A X nL σ w9 c9 n9 pc ls (.int x :: st) := fun H locs la hp hs hl => lv_tableOut hx.1 hx.2.1 hdg h ht (K H locs la hp hs hl)
theorem jo_iload (hx : Go G ao cL A X b nL own k) {i : Nat} {x : Int32} (d : decode b pc = .ok (.iload i, 2)) (z : Nat) (h : ls[z]? = some (i, .int x)) (K : JO l G ao cL A X nL σ w9 c9 n9 (pc + 2) ls (.int x :: st)) : JO l G ao cL A X nL σ w9 c9 n9 pc ls st := fun H locs la hp hs hl => lv_iload hx.1 hx.2.1 d (lv_at hl z h) (K H locs la hp hs hl)
theorem jo_iload_n (hx : Go G ao cL A X b nL own k) {q : Fin 4} {i : Nat} {x : Int32} (d : decode b pc = .ok (.iload_n q, 1)) (hi : (q : Nat) = i) (z : Nat) (h : ls[z]? = some (i, .int x)) (K : JO l G ao cL A X nL σ w9 c9 n9 (pc + 1) ls (.int x :: st)) : JO l G ao cL A X nL σ w9 c9 n9 pc ls st := fun H locs la hp hs hl => lv_iload_n hx.1 hx.2.1 d hi (lv_at hl z h) (K H locs la hp hs hl)
theorem jo_lload (hx : Go G ao cL A X b nL own k) {i : Nat} {x : Int64} (d : decode b pc = .ok (.lload i, 2)) (z : Nat) (h : ls[z]? = some (i, .long x)) (K : JO l G ao cL A X nL σ w9 c9 n9 (pc + 2) ls (.long x :: st)) : JO l G ao cL A X nL σ w9 c9 n9 pc ls st := fun H locs la hp hs hl => lv_lload hx.1 hx.2.1 d (lv_at hl z h) (K H locs la hp hs hl)
theorem jo_lload_n (hx : Go G ao cL A X b nL own k) {q : Fin 4} {i : Nat} {x : Int64} (d : decode b pc = .ok (.lload_n q, 1)) (hi : (q : Nat) = i) (z : Nat) (h : ls[z]? = some (i, .long x)) (K : JO l G ao cL A X nL σ w9 c9 n9 (pc + 1) ls (.long x :: st)) : JO l G ao cL A X nL σ w9 c9 n9 pc ls st := fun H locs la hp hs hl => lv_lload_n hx.1 hx.2.1 d hi (lv_at hl z h) (K H locs la hp hs hl)
theorem jo_aload (hx : Go G ao cL A X b nL own k) {i : Nat} {x : Nat} (d : decode b pc = .ok (.aload i, 2)) (z : Nat) (h : ls[z]? = some (i, .ref x)) (K : JO l G ao cL A X nL σ w9 c9 n9 (pc + 2) ls (.ref x :: st)) : JO l G ao cL A X nL σ w9 c9 n9 pc ls st := fun H locs la hp hs hl => lv_aload hx.1 hx.2.1 d (lv_at hl z h) (K H locs la hp hs hl)
theorem jo_aload_n (hx : Go G ao cL A X b nL own k) {q : Fin 4} {i : Nat} {x : Nat} (d : decode b pc = .ok (.aload_n q, 1)) (hi : (q : Nat) = i) (z : Nat) (h : ls[z]? = some (i, .ref x)) (K : JO l G ao cL A X nL σ w9 c9 n9 (pc + 1) ls (.ref x :: st)) : JO l G ao cL A X nL σ w9 c9 n9 pc ls st := fun H locs la hp hs hl => lv_aload_n hx.1 hx.2.1 d hi (lv_at hl z h) (K H locs la hp hs hl)
theorem jo_istore (hx : Go G ao cL A X b nL own k) {i : Nat} {x : Int32} (ls' : List (Nat × Value)) (d : decode b pc = .ok (.istore i, 2)) (hn : i < nL) (h : (i, Value.int x) :: ls.filter (fun q => !(q.1 == i) && !(q.1 + 1 == i && q.2.category == 2)) = ls') (K : JO l G ao cL A X nL σ w9 c9 n9 (pc + 2) ls' st) : JO l G ao cL A X nL σ w9 c9 n9 pc ls (.int x :: st) := fun H locs la hp hs hl => lv_istore hx.1 hx.2.1 d hl hn h (fun la hl => K H locs la hp hs hl)
theorem jo_istore_n (hx : Go G ao cL A X b nL own k) {q : Fin 4} {i : Nat} {x : Int32} (ls' : List (Nat × Value)) (d : decode b pc = .ok (.istore_n q, 1)) (hi : (q : Nat) = i) (hn : i < nL) (h : (i, Value.int x) :: ls.filter (fun q => !(q.1 == i) && !(q.1 + 1 == i && q.2.category == 2)) = ls') (K : JO l G ao cL A X nL σ w9 c9 n9 (pc + 1) ls' st) : JO l G ao cL A X nL σ w9 c9 n9 pc ls (.int x :: st) := fun H locs la hp hs hl => lv_istore_n hx.1 hx.2.1 d hi hl hn h (fun la hl => K H locs la hp hs hl)
theorem jo_lstore (hx : Go G ao cL A X b nL own k) {i : Nat} {x : Int64} (ls' : List (Nat × Value)) (d : decode b pc = .ok (.lstore i, 2)) (hn : i + 1 < nL) (h : (i, Value.long x) :: ls.filter (fun q => !(q.1 == i) && (!(q.1 == i + 1) && !(q.1 + 1 == i && q.2.category == 2))) = ls') (K : JO l G ao cL A X nL σ w9 c9 n9 (pc + 2) ls' st) : JO l G ao cL A X nL σ w9 c9 n9 pc ls (.long x :: st) := fun H locs la hp hs hl => lv_lstore hx.1 hx.2.1 d hl hn h (fun la hl => K H locs la hp hs hl)
theorem jo_lstore_n (hx : Go G ao cL A X b nL own k) {q : Fin 4} {i : Nat} {x : Int64} (ls' : List (Nat × Value)) (d : decode b pc = .ok (.lstore_n q, 1)) (hi : (q : Nat) = i) (hn : i + 1 < nL) (h : (i, Value.long x) :: ls.filter (fun q => !(q.1 == i) && (!(q.1 == i + 1) && !(q.1 + 1 == i && q.2.category == 2))) = ls') (K : JO l G ao cL A X nL σ w9 c9 n9 (pc + 1) ls' st) : JO l G ao cL A X nL σ w9 c9 n9 pc ls (.long x :: st) := fun H locs la hp hs hl => lv_lstore_n hx.1 hx.2.1 d hi hl hn h (fun la hl => K H locs la hp hs hl)
theorem jo_astore (hx : Go G ao cL A X b nL own k) {i : Nat} {x : Nat} (ls' : List (Nat × Value)) (d : decode b pc = .ok (.astore i, 2)) (hn : i < nL) (h : (i, Value.ref x) :: ls.filter (fun q => !(q.1 == i) && !(q.1 + 1 == i && q.2.category == 2)) = ls') (K : JO l G ao cL A X nL σ w9 c9 n9 (pc + 2) ls' st) : JO l G ao cL A X nL σ w9 c9 n9 pc ls (.ref x :: st) := fun H locs la hp hs hl => lv_astore hx.1 hx.2.1 d hl hn h (fun la hl => K H locs la hp hs hl)
theorem jo_astore_n (hx : Go G ao cL A X b nL own k) {q : Fin 4} {i : Nat} {x : Nat} (ls' : List (Nat × Value)) (d : decode b pc = .ok (.astore_n q, 1)) (hi : (q : Nat) = i) (hn : i < nL) (h : (i, Value.ref x) :: ls.filter (fun q => !(q.1 == i) && !(q.1 + 1 == i && q.2.category == 2)) = ls') (K : JO l G ao cL A X nL σ w9 c9 n9 (pc + 1) ls' st) : JO l G ao cL A X nL σ w9 c9 n9 pc ls (.ref x :: st) := fun H locs la hp hs hl => lv_astore_n hx.1 hx.2.1 d hi hl hn h (fun la hl => K H locs la hp hs hl)
theorem jo_iinc (hx : Go G ao cL A X b nL own k) {i : Nat} {n : Int} {x v : Int32} (ls' : List (Nat × Value)) (d : decode b pc = .ok (.iinc i n, 3)) (z : Nat) (hz9 : ls[z]? = some (i, .int x)) (hv : x + Int32.ofInt n = v) (hn : i < nL) (h : (i, Value.int v) :: ls.filter (fun q => !(q.1 == i) && !(q.1 + 1 == i && q.2.category == 2)) = ls') (K : JO l G ao cL A X nL σ w9 c9 n9 (pc + 3) ls' st) : JO l G ao cL A X nL σ w9 c9 n9 pc ls st := fun H locs la hp hs hl => lv_iinc hx.1 hx.2.1 d hl hz9 hv hn h (fun la hl => K H locs la hp hs hl)
theorem jo_lcmp (hx : Go G ao cL A X b nL own k) {x y : Int64} (d : decode b pc = .ok (.lcmp, 1)) (K : JO l G ao cL A X nL σ w9 c9 n9 (pc + 1) ls (.int (lg_cmp x y) :: st)) : JO l G ao cL A X nL σ w9 c9 n9 pc ls (.long y :: .long x :: st) := fun H locs la hp hs hl => W.lcmp hx.1 hx.2.1 d (K H locs la hp hs hl)

theorem jo_last (hx : Go G ao cL A X b nL own k) {i : Int32} {y : Int64} (hi : i = 0) (d : decode b pc = .ok (.lastore, 1)) (K : JO l G ao cL A X nL σ y c9 n9 (pc + 1) ls st) : JO l G ao cL A X nL σ w9 c9 n9 pc ls (.long y :: .int i :: .ref ao :: st) := by
  intro H locs la hp hs hl
  subst hi
  obtain ⟨h1, h2, h3, h4, h5, h6, h7, h8, h9, h10, h11⟩ := hx
  refine va_last h1 h2 h8 hp (zwo_D h9 h11 σ cL w9) hs 610 2 zwo_out rfl (i := 0) (by rintro (h | h) <;> revert h <;> decide) d (fun H1 locs1 hP hD hS => ?_)
  refine K H1 locs1 la (fun k q hq => ?_) hS hl
  rcases zwo_inv hq with ⟨g1, rfl⟩ | ⟨g1, rfl⟩
  · exact hP k _ (by rw [List.getElem?_set_ne (by omega)]; exact zwo_get g1 rfl)
  · have := hP 610 _ (by rw [List.getElem?_set_self (by unfold zwo; rw [List.length_append, zw_len]; exact Nat.lt_succ_self _)])
    have e1 : vp_cell cL (1, .inr (.inl (vp_updL (fun _ => w9) (0 : Int32).toNatClampNeg y))) = vp_cell cL (1, .inr (.inl (fun _ => y))) := by
      rw [vp_cell_l, vp_cell_l]
      unfold arrV
      have hf : (fun j : Fin 1 => Value.long (vp_updL (fun _ => w9) (0 : Int32).toNatClampNeg y j.val)) = (fun _ : Fin 1 => Value.long y) := by
        funext j
        have h0 : j.val = 0 := by omega
        rw [h0]
        show Value.long (if 0 = (0 : Int32).toNatClampNeg then y else w9) = _
        rw [if_pos (by decide)]
      rw [hf]
    show H1[ao]? = some (vp_cell cL (1, .inr (.inl (fun _ => y))))
    rw [← e1]
    exact this
theorem jo_lald (hx : Go G ao cL A X b nL own k) {i : Int32} (hi : i = 0) (d : decode b pc = .ok (.laload, 1)) (K : JO l G ao cL A X nL σ w9 c9 n9 (pc + 1) ls (.long w9 :: st)) : JO l G ao cL A X nL σ w9 c9 n9 pc ls (.int i :: .ref ao :: st) := by
  intro H locs la hp hs hl
  subst hi
  obtain ⟨h1, h2, h3, h4, h5, h6, h7, h8, h9, h10, h11⟩ := hx
  exact va_lald h1 h2 h8 hp 610 2 zwo_out rfl (i := 0) (by rintro (h | h) <;> revert h <;> decide) d (K H locs la hp hs hl)
/-- the law's script -/
theorem jo_sld (hx : Go G ao cL A X b nL own k) {sb L i : Nat} {x : Int32} {ks : Nat → Int32} (hS : va_X sb L ks (xs X) (xs X).heap ∧ sb < (xs X).heap.size ∧ ¬ A sb) (hL : L ≤ 4096) (hi : i < L) (he : x = nI i) (d : decode b pc = .ok (.iaload, 1)) (K : JO l G ao cL A X nL σ w9 c9 n9 (pc + 1) ls (.int (ks i) :: st)) : JO l G ao cL A X nL σ w9 c9 n9 pc ls (.int x :: .ref sb :: st) := by
  intro H locs la hp hs hl
  subst he
  have e : (nI i).toNatClampNeg = i := nI_clampz (by omega)
  have hin : vp_in (nI i) L := by
    rintro (h | h)
    · exact absurd h (nI_ge0 (by omega))
    · rw [e] at h; omega
  refine va_sld hx.1 hx.2.1 hS.1 hS.2.1 hS.2.2 hs hin d ?_
  rw [e]
  exact K H locs la hp hs hl
theorem jo_slen (hx : Go G ao cL A X b nL own k) {sb L : Nat} {ks : Nat → Int32} (hS : va_X sb L ks (xs X) (xs X).heap ∧ sb < (xs X).heap.size ∧ ¬ A sb) (d : decode b pc = .ok (.arraylength, 1)) (K : JO l G ao cL A X nL σ w9 c9 n9 (pc + 1) ls (.int (nI L) :: st)) : JO l G ao cL A X nL σ w9 c9 n9 pc ls (.ref sb :: st) := by
  intro H locs la hp hs hl
  exact va_slen hx.1 hx.2.1 hS.1 hS.2.1 hS.2.2 hs d (K H locs la hp hs hl)
theorem zoB {H : Heap} {locs : List Loc} (hx : Go G ao cL A X b nL own k) (hp : va_P G.2.1 zcl (zwo G σ ao cL w9) H) (hs : va_S A (xs X).heap H locs) {U : State} (hU : U.heap = H) (hW : (xs X).WarmedH U.vm) : zB G σ H.size U := by
  obtain ⟨h1, h2, h3, h4, h5, h6, h7, h8, h9, h10, h11⟩ := hx
  refine ⟨by rw [hU], by rw [hU]; exact zwo_P hp, va_K.moved hW.alike (zK_of h8), ?_⟩
  rw [hU]
  exact ((h10.kept hs.2.1).narrow (fun q hq => hq.elim (fun ⟨o, ho, e⟩ => e ▸ (h11.1 o ho).1) (fun z => h11.2.2 q (Nat.le_trans hs.1 z)))).warm hW
theorem zoA {H : Heap} {locs : List Loc} (hx : Go G ao cL A X b nL own k) (hs : va_S A (xs X).heap H locs) : ∀ q, zA G H.size q → A q := fun q hq => hq.elim (fun ⟨o, ho, e⟩ => e ▸ (hx.2.2.2.2.2.2.2.2.2.2.1 o ho).1) (fun z => hx.2.2.2.2.2.2.2.2.2.2.2.2 q (Nat.le_trans hs.1 z))
theorem zoK {H H1 : Heap} (hx : Go G ao cL A X b nL own k) (hp : va_P G.2.1 zcl (zwo G σ ao cL w9) H) (hk : ∀ q : Nat, q < H.size → ¬ zA G H.size q → H1[q]? = H[q]?) : H1[ao]? = H[ao]? := by
  have hlt := (hp 610 _ zwo_out).lt
  exact hk ao hlt (fun h => h.elim (fun ⟨o, ho, e⟩ => (hx.2.2.2.2.2.2.2.2.2.2.1 o ho).2 e) (fun z => absurd hlt (Nat.not_lt.mpr z)))
theorem zofix (hx : Go G ao cL A X b nL own k) : CallFix (xp X) (xm X) (xc X) b nL (xs X) (xa X) TB own := ⟨hx.1, hx.2.1, hx.2.2.1, hx.2.2.2.1, hx.2.2.2.2.1⟩
theorem zocw {y : MethodName} {b' : ByteArray} {nL' n k' index : Nat} {ret : Option FieldType} (hx : Go G ao cL A X b nL own k) (m1 : mOK y b' nL' ret n) (m2 : mV y) (t : Cond.methodLink own index y ∈ TB) (hk : k' < k) : CallW (xR X) (xs X) (xa X) own y.cls index y b' nL' ret (.code y b' nL' ret :: TB) (rmK k') 0 0 n := by
  obtain ⟨h1, h2, h3, h4, h5, h6, h7, h8, h9, h10, h11⟩ := hx
  exact ⟨callB_of n h5 (goodTB m1.1) rfl rfl rfl (h5 _ m1.2.1) (h5 _ t) m1.2.2.1 (zroom h7 hk m1.2.2.2), h5 _ m2.1, h5 _ m2.2⟩
theorem zocwX {y : MethodName} {b' : ByteArray} {nL' n k' index : Nat} {ret : Option FieldType} (hx : Go G ao cL A X b nL own k) (m1 : mOK y b' nL' ret n) (m2 : mV y) (t : Cond.methodLink own index y ∈ TB) (hk : k' < k) : CallW (xR X) (xs X) (xa X) own y.cls index y b' nL' ret (.code y b' nL' ret :: TB) (rmX k') 1 6 n := by
  obtain ⟨h1, h2, h3, h4, h5, h6, h7, h8, h9, h10, h11⟩ := hx
  exact ⟨callB_of n h5 (goodTB m1.1) rfl rfl rfl (h5 _ m1.2.1) (h5 _ t) m1.2.2.1 (zroomX h7 hk m1.2.2.2), h5 _ m2.1, h5 _ m2.2⟩
theorem zorun {H : Heap} {locs : List Loc} {y : MethodName} {b' : ByteArray} {nL' n k' index ci N o pc : Nat} {ret : Option FieldType} {T : u_T} {fs As st rest : List Value} {la : Array Slot} {Qc : Array Value → State → Outcome → State → Prop} (hx : Go G ao cL A X b nL own k) (hp : va_P G.2.1 zcl (zwo G σ ao cL w9) H) (hs : va_S A (xs X).heap H locs) (hla : la.size = nL)
    (hM : Met l y (.code y b' nL' ret :: TB) (rmK k') (va_Pc (.ref (G.1 o) :: As) (zB G σ H.size)) Qc 0 0 (zA G H.size)) (m1 : mOK y b' nL' ret n) (m2 : mV y) (t : Cond.methodLink own index y ∈ TB) (hk : k' < k) (hn : As.length = n)
    (ho : o < 610) (he : zs G o (σ o) = .inr (ci, fs)) (hc : zcl[ci]? = some (y.cls, T, N)) (hst : st = As.reverse ++ .ref (G.1 o) :: rest) (hcat : (rest.map fun v => v.category).sum ≤ 8) (d : decode b pc = .ok (.invokevirtual index, 3)) (hr : c9 ≤ (xR X).cells ∧ n9 ≤ (xR X).slots) :
    va_Run (xp X) l (xe X) (xR X) (xs X) (xm X) (xa X) (xb X) (xh X) (xc X) H locs c9 n9 0 0 (F0 (xm X) pc la st) rest (Qc (Value.ref (G.1 o) :: As).toArray) (zA G H.size) := by
  have hp : PreV (xs X) H y.cls (G.1 o) (va_Pc (.ref (G.1 o) :: As) (zB G σ H.size)) As := ⟨zB_blind, va_recv hx.2.2.2.2.2.2.2.1 hp hc (zwo_get ho he), fun U hU hW => ⟨rfl, zoB hx hp hs hU hW⟩⟩
  exact va_runV (zofix hx) hM (zocw hx m1 m2 t hk) hp rfl hn hla hst (lv_room hcat) d hr
theorem jo_callVi (hx : Go G ao cL A X b nL own k) {y : MethodName} {b' : ByteArray} {nL' n k' index : Nat} {ty : FieldType} {r : Int32} {T : u_T} {N ci o : Nat} {fs : List Value} {As rest : List Value} (hM : MI l G y b' nL' ty k' (.ref (G.1 o) :: As) σ r σ') (m1 : mOK y b' nL' (some ty) n) (m2 : mV y) (t : Cond.methodLink own index y ∈ TB) (hk : k' < k) (hn : As.length = n) (ho : o < 610) (he : zs G o (σ o) = .inr (ci, fs)) (hc : zcl[ci]? = some (y.cls, T, N)) (hst : st = As.reverse ++ .ref (G.1 o) :: rest) (hcat : (rest.map fun v => v.category).sum ≤ 8) (d : decode b pc = .ok (.invokevirtual index, 3)) (hr : c9 ≤ (xR X).cells ∧ n9 ≤ (xR X).slots) (K : JO l G ao cL A X nL σ' w9 c9 n9 (pc + 3) ls (.int r :: rest)) : JO l G ao cL A X nL σ w9 c9 n9 pc ls st := by
  intro H locs la hp hs hl
  refine va_calli (zorun hx hp hs hl.1 (hM H.size) m1 m2 t hk hn ho he hc hst hcat d hr) hs (fun q _ h => zoA hx hs q h) (zoA hx hs) (fun r' u t H1 locs1 ht hvm hw hB hz1 hk1 hS => ?_)
  obtain ⟨rfl, rfl⟩ := hw
  rw [ht] at hB
  exact K H1 locs1 la (zwo_back hp hB (zoK hx hp hk1)) hS hl
theorem jo_callVl (hx : Go G ao cL A X b nL own k) {y : MethodName} {b' : ByteArray} {nL' n k' index : Nat} {ty : FieldType} {r : Int64} {T : u_T} {N ci o : Nat} {fs : List Value} {As rest : List Value} (hM : ML l G y b' nL' ty k' (.ref (G.1 o) :: As) σ r σ') (m1 : mOK y b' nL' (some ty) n) (m2 : mV y) (t : Cond.methodLink own index y ∈ TB) (hk : k' < k) (hn : As.length = n) (ho : o < 610) (he : zs G o (σ o) = .inr (ci, fs)) (hc : zcl[ci]? = some (y.cls, T, N)) (hst : st = As.reverse ++ .ref (G.1 o) :: rest) (hcat : (rest.map fun v => v.category).sum ≤ 8) (d : decode b pc = .ok (.invokevirtual index, 3)) (hr : c9 ≤ (xR X).cells ∧ n9 ≤ (xR X).slots) (K : JO l G ao cL A X nL σ' w9 c9 n9 (pc + 3) ls (.long r :: rest)) : JO l G ao cL A X nL σ w9 c9 n9 pc ls st := by
  intro H locs la hp hs hl
  refine va_calll (zorun hx hp hs hl.1 (hM H.size) m1 m2 t hk hn ho he hc hst hcat d hr) hs (fun q _ h => zoA hx hs q h) (zoA hx hs) (fun r' u t H1 locs1 ht hvm hw hB hz1 hk1 hS => ?_)
  obtain ⟨rfl, rfl⟩ := hw
  rw [ht] at hB
  exact K H1 locs1 la (zwo_back hp hB (zoK hx hp hk1)) hS hl
/-- a call that throws, and is caught: by the entry x of the table, behind entries that don't take it -/
theorem jo_catch (hx : Go G ao cL A X b nL own k) {E : String} {y : MethodName} {b' : ByteArray} {nL' n k' index : Nat} {ret : Option FieldType} {T : u_T} {N ci o : Nat} {fs : List Value} {As rest : List Value} (hM : MX l G y b' nL' ret k' (.ref (G.1 o) :: As) σ E σ') (m1 : mOK y b' nL' ret n) (m2 : mV y) (t : Cond.methodLink own index y ∈ TB) (hk : k' < k) (hn : As.length = n) (ho : o < 610) (he : zs G o (σ o) = .inr (ci, fs)) (hc : zcl[ci]? = some (y.cls, T, N)) (hst : st = As.reverse ++ .ref (G.1 o) :: rest) (hcat : (rest.map fun v => v.category).sum ≤ 8) (d : decode b pc = .ok (.invokevirtual index, 3)) (hr : c9 + 1 ≤ (xR X).cells ∧ n9 + 6 ≤ (xR X).slots)
    (pre : List ExceptionTableEntry) (x : ExceptionTableEntry) (suf : List ExceptionTableEntry) (hsp : (xc X).exceptionTable.toList = pre ++ x :: suf)
    (hpass : ∀ z ∈ pre, z.catchType ≠ 0 ∧ ∃ nm : String, Cond.classLink own z.catchType nm ∈ TB ∧ va_Nc E nm (xs X)) (hcov : covers x pc = true) (h0 : x.catchType ≠ 0) (hlk : Cond.classLink own x.catchType E ∈ TB) (hca : Cond.castable E E ∈ tables_1)
    (K : ∀ q : Nat, JO l G ao cL A X nL σ' w9 (c9 + 1) (n9 + 6) x.handlerPc ls [.ref q]) : JO l G ao cL A X nL σ w9 c9 n9 pc ls st := by
  intro H locs la hp hs hl
  have hpv : PreV (xs X) H y.cls (G.1 o) (va_Pc (.ref (G.1 o) :: As) (zB G σ H.size)) As := ⟨zB_blind, va_recv hx.2.2.2.2.2.2.2.1 hp hc (zwo_get ho he), fun U hU hW => ⟨rfl, zoB hx hp hs hU hW⟩⟩
  have hr9 := vx_runV (mc := 1) (ms := 6) (locs := locs) (cells := c9) (slots := n9) (g := F0 (xm X) pc la st) (rest := rest) (b := G.1 o) (As := As) (e := xe X) (below := xb X) (meth := xh X) (zofix hx) (hM H.size) (zocwX hx m1 m2 t hk) hpv rfl hn hl.1 hst (lv_room hcat) d hr
  refine vx_callv hr9 hs (fun q _ h => zoA hx hs q h) (zoA hx hs) (fun q _ h => zoA hx hs q h) ?_ ?_
  · intro E' ce q9 u t1 H1 locs1 ht hvm hu hB hz1 hk1 hS hcell hv hcl
    obtain ⟨rfl, hP⟩ := hB
    subst hu
    rw [ht] at hP
    have hts := hx.2.2.2.2.1
    refine vx_catch hx.2.2.2.1 pre x suf hsp (fun z hz => Or.inr ?_) hcov h0 (hts _ hlk) (va_Nw.use rfl (hx.2.2.2.2.2.2.2.2.2.1.1.2.1 _ _ hca)) hcell hv hcl (K q9 H1 locs1 la (zwo_back hp hP (zoK hx hp hk1)) hS hl)
    obtain ⟨z1, nm, z2, z3⟩ := hpass z hz
    exact ⟨z1, nm, hts _ z2, z3⟩
  · intro u t1 H1 locs1 ht hvm hu
    exact hu.elim
end JORULES
