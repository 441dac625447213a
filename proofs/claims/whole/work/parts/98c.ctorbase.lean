/-! OBJECTS BEFORE THE WORLD STANDS: methods over a range of objects (qa ≤ o < qb); constructors. -/
def zwp (G : Gz) (qa qb : Nat) (σ : St) : va_W := (List.range (qb - qa)).map fun k => (G.1 (qa + k), zs G (qa + k) (σ (qa + k)))
def zAp (G : Gz) (qa qb : Nat) : Nat → Prop := fun q => ∃ o, (qa ≤ o ∧ o < qb) ∧ G.1 o = q
def zIp (G : Gz) (qa qb : Nat) : Prop := ∀ i j, (qa ≤ i ∧ i < qb) → (qa ≤ j ∧ j < qb) → G.1 i = G.1 j → i = j
theorem zwp_get {G : Gz} {qa qb : Nat} {σ : St} {o : Nat} (h : qa ≤ o ∧ o < qb) : (zwp G qa qb σ)[o - qa]? = some (G.1 o, zs G o (σ o)) := by
  have : qa + (o - qa) = o := by omega
  simp only [zwp, List.getElem?_map]
  rw [List.getElem?_range (by omega)]
  simp [this]
theorem zwp_get' {G : Gz} {qa qb : Nat} {σ : St} {o : Nat} {e : va_E} (h : qa ≤ o ∧ o < qb) (he : zs G o (σ o) = e) : (zwp G qa qb σ)[o - qa]? = some (G.1 o, e) := by rw [zwp_get h, he]
theorem zwp_inv {G : Gz} {qa qb : Nat} {σ : St} {k : Nat} {q : Nat × va_E} (h : (zwp G qa qb σ)[k]? = some q) : (qa ≤ qa + k ∧ qa + k < qb) ∧ q = (G.1 (qa + k), zs G (qa + k) (σ (qa + k))) := by
  have hk : k < qb - qa := by
    have := (List.getElem?_eq_some_iff.mp h).1
    simpa [zwp] using this
  have hh : qa ≤ qa + k ∧ qa + k < qb := by omega
  have e := zwp_get (G := G) (σ := σ) hh
  rw [show qa + k - qa = k by omega] at e
  rw [e] at h
  exact ⟨hh, (Option.some.inj h).symm⟩
theorem zwp_set {G : Gz} {qa qb : Nat} {σ : St} {o k : Nat} {v : Int32} {e : va_E} (ho : qa ≤ o ∧ o < qb) (he : zs G o (upd (σ o) k v) = e) : (zwp G qa qb σ).set (o - qa) (G.1 o, e) = zwp G qa qb (up σ o k v) := by
  apply List.ext_getElem?
  intro i
  rw [List.getElem?_set]
  by_cases hi9 : o - qa = i
  · subst hi9
    rw [if_pos rfl, if_pos (by simp [zwp]; omega), zwp_get ho]
    simp [up, he]
  · rw [if_neg hi9]
    by_cases hl : i < qb - qa
    · have hh : qa ≤ qa + i ∧ qa + i < qb := by omega
      have e1 := zwp_get (G := G) (σ := σ) hh
      have e2 := zwp_get (G := G) (σ := up σ o k v) hh
      rw [show qa + i - qa = i by omega] at e1 e2
      rw [e1, e2, up_o (show qa + i ≠ o by omega)]
    · rw [List.getElem?_eq_none (by simp [zwp]; omega), List.getElem?_eq_none (by simp [zwp]; omega)]
theorem zwp_D {G : Gz} {qa qb : Nat} (h : zIp G qa qb) (σ : St) : va_D (zAp G qa qb) (zwp G qa qb σ) := by
  refine ⟨fun i j p q hp hq e => ?_, fun k q hq => ?_⟩
  · obtain ⟨h1, rfl⟩ := zwp_inv hp
    obtain ⟨h2, rfl⟩ := zwp_inv hq
    have := h _ _ h1 h2 e
    omega
  · obtain ⟨h1, rfl⟩ := zwp_inv hq
    exact ⟨_, h1, rfl⟩
def zBp (G : Gz) (qa qb : Nat) (σ : St) (U : State) : Prop := va_P G.2.1 zcl (zwp G qa qb σ) U.heap ∧ va_K G.2.1 zcl (ztys G) U
def zQp (G : Gz) (qa qb : Nat) (σ : St) : Array Value → State → Outcome → State → Prop := va_Qv (fun (u : St) => u = σ) (fun u t => va_P G.2.1 zcl (zwp G qa qb u) t.heap) (zAp G qa qb)
def MP (l : Launch) (G : Gz) (y : MethodName) (b : ByteArray) (nL : Nat) (k : Nat) (av : List Value) (qa qb : Nat) (σ σ' : St) : Prop := Met l y (.code y b nL none :: TB) (rmK k) (va_Pc av (zBp G qa qb σ)) (zQp G qa qb σ') 0 0 (zAp G qa qb)
theorem zBp_blind {G : Gz} {qa qb : Nat} {σ : St} {av : List Value} : FrameBlind (va_Pc av (zBp G qa qb σ)) := fun a U g mk h => ⟨h.1, h.2.1, va_K.moved (u := U) (U := U.calling g mk a) (Vm.Alike.refl U.vm) h.2.2⟩
def JP (l : Launch) (G : Gz) (X : Cx) (nL qa qb : Nat) (σ : St) (pc : Nat) (ls : List (Nat × Value)) (st : List Value) : Prop :=
  ∀ (H : Heap) (locs : List Loc) (la : Array Slot), va_P G.2.1 zcl (zwp G qa qb σ) H ∧ va_S (zAp G qa qb) (xs X).heap H locs → lv_has la nL ls → W (xp X) l (xe X) (xR X) (xs X) (xm X) (xa X) (xb X) (xh X) (xc X) H locs 0 0 (xQ X) (F0 (xm X) pc la st)
def Gp (G : Gz) (X : Cx) (b : ByteArray) (nL : Nat) (own : String) (k qa qb : Nat) : Prop :=
  (xp X).tables.exec = Jvm.exec ∧ (xc X).code = b ∧ (xc X).maxLocals = nL ∧ (xs X).vm.findClass own = some (xm X).cls ∧ (∀ w ∈ TB, w.before (xa X) (xs X) = true) ∧ (xh X).locks = false ∧ Rm (xR X) k ∧
  va_K G.2.1 zcl (ztys G) (xs X) ∧ zIp G qa qb
def EP (G : Gz) (X : Cx) (qa qb : Nat) (σ : St) : Prop := (xh X).sig.returnType = none ∧ xQ X = MQ (xb X) (zQp G qa qb σ) (xa X) (xs X) 0 0 (zAp G qa qb)
theorem MP.of {l : Launch} {G : Gz} {y : MethodName} {b : ByteArray} {nL k qa qb : Nat} {av : List Value} {σ σ' : St} (hG : zIp G qa qb) (hy : plainName y.cls = true) (hn : (lg_sl av).length ≤ nL) (body : ∀ X : Cx, Gp G X b nL y.cls k qa qb → EP G X qa qb σ' → JP l G X nL qa qb σ 0 (lv_args 0 av) []) : MP l G y b nL k av qa qb σ σ' := by
  refine Met.ofW (cc := b) (maxL := nL) (ret := none) hy rfl ?_
  intro p e s m args below meth c s₁ B hml hv
  obtain ⟨rfl, hP, hK⟩ := hv
  have hts := atoms_spec (ws := .code y b nL none :: TB) B.pre
  have h := body ⟨p, e, rmK k, s, m, av.toArray, below, meth, c, MQ below (zQp G qa qb σ') av.toArray s 0 0 (zAp G qa qb)⟩ ⟨B.exec, B.bytes, hml, findClass_of_methodNamed B.named, fun w hw => hts w (List.mem_cons_of_mem _ hw), B.notSynchronized, ⟨Nat.le_refl _, Nat.le_refl _⟩, hK, hG⟩ ⟨B.returns, rfl⟩ s.heap [] _ ⟨hP, va_S.rf⟩ (lv_entry av hn)
  rw [lg_entry_eq]
  exact h
section JPRULES
variable {l : Launch} {G : Gz} {X : Cx} {b : ByteArray} {nL k pc qa qb : Nat} {own : String} {σ σ' : St} {ls ls' : List (Nat × Value)} {st : List Value}
theorem JP.to {pc' : Nat} {st' : List Value} (h1 : σ = σ') (h3 : st = st') (K : JP l G X nL qa qb σ' pc ls st') : JP l G X nL qa qb σ pc ls st := by
  subst h1; subst h3; exact K
theorem jp_iconst (hx : Gp G X b nL own k qa qb) {n : Int} {v : Int32} (hdg : decode b pc = .ok (.iconst n, 1)) (hv : Int32.ofInt n = v)     (K : JP l G X nL qa qb σ (pc + 1) ls (.int v :: st)) : JP l G X nL qa qb σ pc ls (st) := fun H locs la hz hl => lv_iconst hx.1 hx.2.1 hdg hv (K H locs la hz hl)
theorem jp_bipush (hx : Gp G X b nL own k qa qb) {n : Int} {v : Int32} (hdg : decode b pc = .ok (.bipush n, 2)) (hv : (Int8.ofInt n).toInt32 = v)     (K : JP l G X nL qa qb σ (pc + 2) ls (.int v :: st)) : JP l G X nL qa qb σ pc ls (st) := fun H locs la hz hl => lv_bipush hx.1 hx.2.1 hdg hv (K H locs la hz hl)
theorem jp_sipush (hx : Gp G X b nL own k qa qb) {n : Int} {v : Int32} (hdg : decode b pc = .ok (.sipush n, 3)) (hv : (Int16.ofInt n).toInt32 = v)     (K : JP l G X nL qa qb σ (pc + 3) ls (.int v :: st)) : JP l G X nL qa qb σ pc ls (st) := fun H locs la hz hl => lv_sipush hx.1 hx.2.1 hdg hv (K H locs la hz hl)
theorem jp_lconst (hx : Gp G X b nL own k qa qb) {n : Fin 2} {v : Int64} (hdg : decode b pc = .ok (.lconst n, 1)) (hv : Int64.ofNat (n : Nat) = v)     (K : JP l G X nL qa qb σ (pc + 1) ls (.long v :: st)) : JP l G X nL qa qb σ pc ls (st) := fun H locs la hz hl => lv_lconst hx.1 hx.2.1 hdg hv (K H locs la hz hl)
theorem jp_iadd (hx : Gp G X b nL own k qa qb) {x y : Int32} (hdg : decode b pc = .ok (.iadd, 1))      (K : JP l G X nL qa qb σ (pc + 1) ls (.int (x + y) :: st)) : JP l G X nL qa qb σ pc ls (.int y :: .int x :: st) := fun H locs la hz hl => lv_iadd hx.1 hx.2.1 hdg (K H locs la hz hl)
theorem jp_isub (hx : Gp G X b nL own k qa qb) {x y : Int32} (hdg : decode b pc = .ok (.isub, 1))      (K : JP l G X nL qa qb σ (pc + 1) ls (.int (x - y) :: st)) : JP l G X nL qa qb σ pc ls (.int y :: .int x :: st) := fun H locs la hz hl => lv_isub hx.1 hx.2.1 hdg (K H locs la hz hl)
theorem jp_imul (hx : Gp G X b nL own k qa qb) {x y : Int32} (hdg : decode b pc = .ok (.imul, 1))      (K : JP l G X nL qa qb σ (pc + 1) ls (.int (x * y) :: st)) : JP l G X nL qa qb σ pc ls (.int y :: .int x :: st) := fun H locs la hz hl => lv_imul hx.1 hx.2.1 hdg (K H locs la hz hl)
theorem jp_idiv (hx : Gp G X b nL own k qa qb) {x y : Int32} (hdg : decode b pc = .ok (.idiv, 1)) (hne : ¬ y = 0)     (K : JP l G X nL qa qb σ (pc + 1) ls (.int (x / y) :: st)) : JP l G X nL qa qb σ pc ls (.int y :: .int x :: st) := fun H locs la hz hl => lv_idiv hx.1 hx.2.1 hdg hne (K H locs la hz hl)
theorem jp_irem (hx : Gp G X b nL own k qa qb) {x y : Int32} (hdg : decode b pc = .ok (.irem, 1)) (hne : ¬ y = 0)     (K : JP l G X nL qa qb σ (pc + 1) ls (.int (x - x / y * y) :: st)) : JP l G X nL qa qb σ pc ls (.int y :: .int x :: st) := fun H locs la hz hl => lv_irem hx.1 hx.2.1 hdg hne (K H locs la hz hl)
theorem jp_ineg (hx : Gp G X b nL own k qa qb) {x : Int32} (hdg : decode b pc = .ok (.ineg, 1))      (K : JP l G X nL qa qb σ (pc + 1) ls (.int (-x) :: st)) : JP l G X nL qa qb σ pc ls (.int x :: st) := fun H locs la hz hl => lv_ineg hx.1 hx.2.1 hdg (K H locs la hz hl)
theorem jp_ishl (hx : Gp G X b nL own k qa qb) {x y : Int32} (hdg : decode b pc = .ok (.ishl, 1))      (K : JP l G X nL qa qb σ (pc + 1) ls (.int (x <<< (y &&& 31)) :: st)) : JP l G X nL qa qb σ pc ls (.int y :: .int x :: st) := fun H locs la hz hl => lv_ishl hx.1 hx.2.1 hdg (K H locs la hz hl)
theorem jp_ishr (hx : Gp G X b nL own k qa qb) {x y : Int32} (hdg : decode b pc = .ok (.ishr, 1))      (K : JP l G X nL qa qb σ (pc + 1) ls (.int (x >>> (y &&& 31)) :: st)) : JP l G X nL qa qb σ pc ls (.int y :: .int x :: st) := fun H locs la hz hl => lv_ishr hx.1 hx.2.1 hdg (K H locs la hz hl)
theorem jp_iushr (hx : Gp G X b nL own k qa qb) {x y v : Int32} (hdg : decode b pc = .ok (.iushr, 1)) (hv : (x.toUInt32 >>> (y.toUInt32 &&& Int32.toUInt32 31)).toInt32 = v)     (K : JP l G X nL qa qb σ (pc + 1) ls (.int v :: st)) : JP l G X nL qa qb σ pc ls (.int y :: .int x :: st) := fun H locs la hz hl => lv_iushr hx.1 hx.2.1 hdg hv (K H locs la hz hl)
theorem jp_iand (hx : Gp G X b nL own k qa qb) {x y : Int32} (hdg : decode b pc = .ok (.iand, 1))      (K : JP l G X nL qa qb σ (pc + 1) ls (.int (x &&& y) :: st)) : JP l G X nL qa qb σ pc ls (.int y :: .int x :: st) := fun H locs la hz hl => lv_iand hx.1 hx.2.1 hdg (K H locs la hz hl)
theorem jp_ior (hx : Gp G X b nL own k qa qb) {x y : Int32} (hdg : decode b pc = .ok (.ior, 1))      (K : JP l G X nL qa qb σ (pc + 1) ls (.int (x ||| y) :: st)) : JP l G X nL qa qb σ pc ls (.int y :: .int x :: st) := fun H locs la hz hl => lv_ior hx.1 hx.2.1 hdg (K H locs la hz hl)
theorem jp_ixor (hx : Gp G X b nL own k qa qb) {x y : Int32} (hdg : decode b pc = .ok (.ixor, 1))      (K : JP l G X nL qa qb σ (pc + 1) ls (.int (x ^^^ y) :: st)) : JP l G X nL qa qb σ pc ls (.int y :: .int x :: st) := fun H locs la hz hl => lv_ixor hx.1 hx.2.1 hdg (K H locs la hz hl)
theorem jp_i2l (hx : Gp G X b nL own k qa qb) {x : Int32} {v : Int64} (hdg : decode b pc = .ok (.i2l, 1)) (hv : x.toInt64 = v)     (K : JP l G X nL qa qb σ (pc + 1) ls (.long v :: st)) : JP l G X nL qa qb σ pc ls (.int x :: st) := fun H locs la hz hl => lv_i2l hx.1 hx.2.1 hdg hv (K H locs la hz hl)
theorem jp_ladd (hx : Gp G X b nL own k qa qb) {x y : Int64} (hdg : decode b pc = .ok (.ladd, 1))      (K : JP l G X nL qa qb σ (pc + 1) ls (.long (x + y) :: st)) : JP l G X nL qa qb σ pc ls (.long y :: .long x :: st) := fun H locs la hz hl => lv_ladd hx.1 hx.2.1 hdg (K H locs la hz hl)
theorem jp_lmul (hx : Gp G X b nL own k qa qb) {x y : Int64} (hdg : decode b pc = .ok (.lmul, 1))      (K : JP l G X nL qa qb σ (pc + 1) ls (.long (x * y) :: st)) : JP l G X nL qa qb σ pc ls (.long y :: .long x :: st) := fun H locs la hz hl => lv_lmul hx.1 hx.2.1 hdg (K H locs la hz hl)
theorem jp_ldiv (hx : Gp G X b nL own k qa qb) {x y : Int64} (hdg : decode b pc = .ok (.ldiv, 1)) (hne : ¬ y = 0)     (K : JP l G X nL qa qb σ (pc + 1) ls (.long (x / y) :: st)) : JP l G X nL qa qb σ pc ls (.long y :: .long x :: st) := fun H locs la hz hl => lv_ldiv hx.1 hx.2.1 hdg hne (K H locs la hz hl)
theorem jp_lrem (hx : Gp G X b nL own k qa qb) {x y : Int64} (hdg : decode b pc = .ok (.lrem, 1)) (hne : ¬ y = 0)     (K : JP l G X nL qa qb σ (pc + 1) ls (.long (x - x / y * y) :: st)) : JP l G X nL qa qb σ pc ls (.long y :: .long x :: st) := fun H locs la hz hl => lv_lrem hx.1 hx.2.1 hdg hne (K H locs la hz hl)
theorem jp_dup (hx : Gp G X b nL own k qa qb) {va : Value} (hdg : decode b pc = .ok (.dup, 1)) (hva : va.category = 1)     (K : JP l G X nL qa qb σ (pc + 1) ls (va :: va :: st)) : JP l G X nL qa qb σ pc ls (va :: st) := fun H locs la hz hl => lv_dup hx.1 hx.2.1 hdg hva (K H locs la hz hl)
theorem jp_dup2_11 (hx : Gp G X b nL own k qa qb) {va vb : Value} (hdg : decode b pc = .ok (.dup2, 1)) (hva : va.category = 1) (hvb : vb.category = 1)     (K : JP l G X nL qa qb σ (pc + 1) ls (va :: vb :: va :: vb :: st)) : JP l G X nL qa qb σ pc ls (va :: vb :: st) := fun H locs la hz hl => lv_dup2_11 hx.1 hx.2.1 hdg hva hvb (K H locs la hz hl)
theorem jp_pop (hx : Gp G X b nL own k qa qb) {va : Value} (hdg : decode b pc = .ok (.pop, 1)) (hva : va.category = 1)     (K : JP l G X nL qa qb σ (pc + 1) ls (st)) : JP l G X nL qa qb σ pc ls (va :: st) := fun H locs la hz hl => lv_pop hx.1 hx.2.1 hdg hva (K H locs la hz hl)
theorem jp_i2c (hx : Gp G X b nL own k qa qb) {x : Int32} {v : Int32} (hdg : decode b pc = .ok (.i2c, 1)) (hv : (x.toUInt32 % 65536).toInt32 = v)     (K : JP l G X nL qa qb σ (pc + 1) ls (.int v :: st)) : JP l G X nL qa qb σ pc ls (.int x :: st) := fun H locs la hz hl => lv_i2c hx.1 hx.2.1 hdg hv (K H locs la hz hl)
theorem jp_if_eq (hx : Gp G X b nL own k qa qb) {x : Int32} {off : Int} {tgt : Nat} (hdg : decode b pc = .ok (.ifCond .eq off, 3)) (ht : (pc : Int) + off = (tgt : Int))     (kt : x = 0 → JP l G X nL qa qb σ tgt ls st) (kf : ¬ x = 0 → JP l G X nL qa qb σ (pc + 3) ls st) : JP l G X nL qa qb σ pc ls (.int x :: st) := fun H locs la hz hl => lv_if_eq hx.1 hx.2.1 hdg ht (fun c9 => kt c9 H locs la hz hl) (fun c9 => kf c9 H locs la hz hl)
theorem jp_if_ne (hx : Gp G X b nL own k qa qb) {x : Int32} {off : Int} {tgt : Nat} (hdg : decode b pc = .ok (.ifCond .ne off, 3)) (ht : (pc : Int) + off = (tgt : Int))     (kt : ¬ x = 0 → JP l G X nL qa qb σ tgt ls st) (kf : x = 0 → JP l G X nL qa qb σ (pc + 3) ls st) : JP l G X nL qa qb σ pc ls (.int x :: st) := fun H locs la hz hl => lv_if_ne hx.1 hx.2.1 hdg ht (fun c9 => kt c9 H locs la hz hl) (fun c9 => kf c9 H locs la hz hl)
theorem jp_if_lt (hx : Gp G X b nL own k qa qb) {x : Int32} {off : Int} {tgt : Nat} (hdg : decode b pc = .ok (.ifCond .lt off, 3)) (ht : (pc : Int) + off = (tgt : Int))     (kt : x < 0 → JP l G X nL qa qb σ tgt ls st) (kf : ¬ x < 0 → JP l G X nL qa qb σ (pc + 3) ls st) : JP l G X nL qa qb σ pc ls (.int x :: st) := fun H locs la hz hl => lv_if_lt hx.1 hx.2.1 hdg ht (fun c9 => kt c9 H locs la hz hl) (fun c9 => kf c9 H locs la hz hl)
theorem jp_if_ge (hx : Gp G X b nL own k qa qb) {x : Int32} {off : Int} {tgt : Nat} (hdg : decode b pc = .ok (.ifCond .ge off, 3)) (ht : (pc : Int) + off = (tgt : Int))     (kt : 0 ≤ x → JP l G X nL qa qb σ tgt ls st) (kf : ¬ 0 ≤ x → JP l G X nL qa qb σ (pc + 3) ls st) : JP l G X nL qa qb σ pc ls (.int x :: st) := fun H locs la hz hl => lv_if_ge hx.1 hx.2.1 hdg ht (fun c9 => kt c9 H locs la hz hl) (fun c9 => kf c9 H locs la hz hl)
theorem jp_if_gt (hx : Gp G X b nL own k qa qb) {x : Int32} {off : Int} {tgt : Nat} (hdg : decode b pc = .ok (.ifCond .gt off, 3)) (ht : (pc : Int) + off = (tgt : Int))     (kt : 0 < x → JP l G X nL qa qb σ tgt ls st) (kf : ¬ 0 < x → JP l G X nL qa qb σ (pc + 3) ls st) : JP l G X nL qa qb σ pc ls (.int x :: st) := fun H locs la hz hl => lv_if_gt hx.1 hx.2.1 hdg ht (fun c9 => kt c9 H locs la hz hl) (fun c9 => kf c9 H locs la hz hl)
theorem jp_if_le (hx : Gp G X b nL own k qa qb) {x : Int32} {off : Int} {tgt : Nat} (hdg : decode b pc = .ok (.ifCond .le off, 3)) (ht : (pc : Int) + off = (tgt : Int))     (kt : x ≤ 0 → JP l G X nL qa qb σ tgt ls st) (kf : ¬ x ≤ 0 → JP l G X nL qa qb σ (pc + 3) ls st) : JP l G X nL qa qb σ pc ls (.int x :: st) := fun H locs la hz hl => lv_if_le hx.1 hx.2.1 hdg ht (fun c9 => kt c9 H locs la hz hl) (fun c9 => kf c9 H locs la hz hl)
theorem jp_icmp_eq (hx : Gp G X b nL own k qa qb) {x y : Int32} {off : Int} {tgt : Nat} (hdg : decode b pc = .ok (.if_icmp .eq off, 3)) (ht : (pc : Int) + off = (tgt : Int))     (kt : x = y → JP l G X nL qa qb σ tgt ls st) (kf : ¬ x = y → JP l G X nL qa qb σ (pc + 3) ls st) : JP l G X nL qa qb σ pc ls (.int y :: .int x :: st) := fun H locs la hz hl => lv_icmp_eq hx.1 hx.2.1 hdg ht (fun c9 => kt c9 H locs la hz hl) (fun c9 => kf c9 H locs la hz hl)
theorem jp_icmp_ne (hx : Gp G X b nL own k qa qb) {x y : Int32} {off : Int} {tgt : Nat} (hdg : decode b pc = .ok (.if_icmp .ne off, 3)) (ht : (pc : Int) + off = (tgt : Int))     (kt : ¬ x = y → JP l G X nL qa qb σ tgt ls st) (kf : x = y → JP l G X nL qa qb σ (pc + 3) ls st) : JP l G X nL qa qb σ pc ls (.int y :: .int x :: st) := fun H locs la hz hl => lv_icmp_ne hx.1 hx.2.1 hdg ht (fun c9 => kt c9 H locs la hz hl) (fun c9 => kf c9 H locs la hz hl)
theorem jp_icmp_lt (hx : Gp G X b nL own k qa qb) {x y : Int32} {off : Int} {tgt : Nat} (hdg : decode b pc = .ok (.if_icmp .lt off, 3)) (ht : (pc : Int) + off = (tgt : Int))     (kt : x < y → JP l G X nL qa qb σ tgt ls st) (kf : ¬ x < y → JP l G X nL qa qb σ (pc + 3) ls st) : JP l G X nL qa qb σ pc ls (.int y :: .int x :: st) := fun H locs la hz hl => lv_icmp_lt hx.1 hx.2.1 hdg ht (fun c9 => kt c9 H locs la hz hl) (fun c9 => kf c9 H locs la hz hl)
theorem jp_icmp_ge (hx : Gp G X b nL own k qa qb) {x y : Int32} {off : Int} {tgt : Nat} (hdg : decode b pc = .ok (.if_icmp .ge off, 3)) (ht : (pc : Int) + off = (tgt : Int))     (kt : y ≤ x → JP l G X nL qa qb σ tgt ls st) (kf : ¬ y ≤ x → JP l G X nL qa qb σ (pc + 3) ls st) : JP l G X nL qa qb σ pc ls (.int y :: .int x :: st) := fun H locs la hz hl => lv_icmp_ge hx.1 hx.2.1 hdg ht (fun c9 => kt c9 H locs la hz hl) (fun c9 => kf c9 H locs la hz hl)
theorem jp_icmp_gt (hx : Gp G X b nL own k qa qb) {x y : Int32} {off : Int} {tgt : Nat} (hdg : decode b pc = .ok (.if_icmp .gt off, 3)) (ht : (pc : Int) + off = (tgt : Int))     (kt : y < x → JP l G X nL qa qb σ tgt ls st) (kf : ¬ y < x → JP l G X nL qa qb σ (pc + 3) ls st) : JP l G X nL qa qb σ pc ls (.int y :: .int x :: st) := fun H locs la hz hl => lv_icmp_gt hx.1 hx.2.1 hdg ht (fun c9 => kt c9 H locs la hz hl) (fun c9 => kf c9 H locs la hz hl)
theorem jp_icmp_le (hx : Gp G X b nL own k qa qb) {x y : Int32} {off : Int} {tgt : Nat} (hdg : decode b pc = .ok (.if_icmp .le off, 3)) (ht : (pc : Int) + off = (tgt : Int))     (kt : x ≤ y → JP l G X nL qa qb σ tgt ls st) (kf : ¬ x ≤ y → JP l G X nL qa qb σ (pc + 3) ls st) : JP l G X nL qa qb σ pc ls (.int y :: .int x :: st) := fun H locs la hz hl => lv_icmp_le hx.1 hx.2.1 hdg ht (fun c9 => kt c9 H locs la hz hl) (fun c9 => kf c9 H locs la hz hl)
theorem jp_goto (hx : Gp G X b nL own k qa qb) {off : Int} {tgt : Nat} (hdg : decode b pc = .ok (.goto off, 3)) (ht : (pc : Int) + off = (tgt : Int)) (K : JP l G X nL qa qb σ tgt ls st) : JP l G X nL qa qb σ pc ls st := fun H locs la hz hl => lv_goto hx.1 hx.2.1 hdg ht (K H locs la hz hl)
theorem jp_tableIn (hx : Gp G X b nL own k qa qb) {dflt lo hi : Int} {offs : Array Int} {len : Nat} {x : Int32} {off : Int} {tgt : Nat} (hdg : decode b pc = .ok (.tableswitch dflt lo hi offs, len)) (h1 : ¬ x.toInt < lo) (h2 : ¬ hi < x.toInt) (ho : offs[(x.toInt - lo).toNat]? = some off) (ht : (pc : Int) + off = (tgt : Int))     (K : JP l G X nL qa qb σ tgt ls st) : JP l G X nL qa qb σ pc ls (.int x :: st) := fun H locs la hz hl => lv_tableIn hx.1 hx.2.1 hdg h1 h2 ho ht (K H locs la hz hl)
theorem jp_tableOut (hx : Gp G X b nL own k qa qb) {dflt lo hi : Int} {offs : Array Int} {len : Nat} {x : Int32} {tgt : Nat} (hdg : decode b pc = .ok (.tableswitch dflt lo hi offs, len)) (h : x.toInt < lo ∨ hi < x.toInt) (ht : (pc : Int) + dflt = (tgt : Int))     (K : JP l G X nL qa qb σ tgt ls st) : JP l G X nL qa qb σ pc ls (.int x :: st) := fun H locs la hz hl => lv_tableOut hx.1 hx.2.1 hdg h ht (K H locs la hz hl)
theorem jp_iload (hx : Gp G X b nL own k qa qb) {i : Nat} {x : Int32} (d : decode b pc = .ok (.iload i, 2)) (z : Nat) (h : ls[z]? = some (i, .int x)) (K : JP l G X nL qa qb σ (pc + 2) ls (.int x :: st)) : JP l G X nL qa qb σ pc ls st := fun H locs la hz hl => lv_iload hx.1 hx.2.1 d (lv_at hl z h) (K H locs la hz hl)
theorem jp_iload_n (hx : Gp G X b nL own k qa qb) {q : Fin 4} {i : Nat} {x : Int32} (d : decode b pc = .ok (.iload_n q, 1)) (hi : (q : Nat) = i) (z : Nat) (h : ls[z]? = some (i, .int x)) (K : JP l G X nL qa qb σ (pc + 1) ls (.int x :: st)) : JP l G X nL qa qb σ pc ls st := fun H locs la hz hl => lv_iload_n hx.1 hx.2.1 d hi (lv_at hl z h) (K H locs la hz hl)
theorem jp_lload (hx : Gp G X b nL own k qa qb) {i : Nat} {x : Int64} (d : decode b pc = .ok (.lload i, 2)) (z : Nat) (h : ls[z]? = some (i, .long x)) (K : JP l G X nL qa qb σ (pc + 2) ls (.long x :: st)) : JP l G X nL qa qb σ pc ls st := fun H locs la hz hl => lv_lload hx.1 hx.2.1 d (lv_at hl z h) (K H locs la hz hl)
theorem jp_lload_n (hx : Gp G X b nL own k qa qb) {q : Fin 4} {i : Nat} {x : Int64} (d : decode b pc = .ok (.lload_n q, 1)) (hi : (q : Nat) = i) (z : Nat) (h : ls[z]? = some (i, .long x)) (K : JP l G X nL qa qb σ (pc + 1) ls (.long x :: st)) : JP l G X nL qa qb σ pc ls st := fun H locs la hz hl => lv_lload_n hx.1 hx.2.1 d hi (lv_at hl z h) (K H locs la hz hl)
theorem jp_aload (hx : Gp G X b nL own k qa qb) {i : Nat} {x : Nat} (d : decode b pc = .ok (.aload i, 2)) (z : Nat) (h : ls[z]? = some (i, .ref x)) (K : JP l G X nL qa qb σ (pc + 2) ls (.ref x :: st)) : JP l G X nL qa qb σ pc ls st := fun H locs la hz hl => lv_aload hx.1 hx.2.1 d (lv_at hl z h) (K H locs la hz hl)
theorem jp_aload_n (hx : Gp G X b nL own k qa qb) {q : Fin 4} {i : Nat} {x : Nat} (d : decode b pc = .ok (.aload_n q, 1)) (hi : (q : Nat) = i) (z : Nat) (h : ls[z]? = some (i, .ref x)) (K : JP l G X nL qa qb σ (pc + 1) ls (.ref x :: st)) : JP l G X nL qa qb σ pc ls st := fun H locs la hz hl => lv_aload_n hx.1 hx.2.1 d hi (lv_at hl z h) (K H locs la hz hl)
theorem jp_istore (hx : Gp G X b nL own k qa qb) {i : Nat} {x : Int32} (ls' : List (Nat × Value)) (d : decode b pc = .ok (.istore i, 2)) (hn : i < nL) (h : (i, Value.int x) :: ls.filter (fun q => !(q.1 == i) && !(q.1 + 1 == i && q.2.category == 2)) = ls') (K : JP l G X nL qa qb σ (pc + 2) ls' st) : JP l G X nL qa qb σ pc ls (.int x :: st) := fun H locs la hz hl => lv_istore hx.1 hx.2.1 d hl hn h (fun la hl => K H locs la hz hl)
theorem jp_istore_n (hx : Gp G X b nL own k qa qb) {q : Fin 4} {i : Nat} {x : Int32} (ls' : List (Nat × Value)) (d : decode b pc = .ok (.istore_n q, 1)) (hi : (q : Nat) = i) (hn : i < nL) (h : (i, Value.int x) :: ls.filter (fun q => !(q.1 == i) && !(q.1 + 1 == i && q.2.category == 2)) = ls') (K : JP l G X nL qa qb σ (pc + 1) ls' st) : JP l G X nL qa qb σ pc ls (.int x :: st) := fun H locs la hz hl => lv_istore_n hx.1 hx.2.1 d hi hl hn h (fun la hl => K H locs la hz hl)
theorem jp_lstore (hx : Gp G X b nL own k qa qb) {i : Nat} {x : Int64} (ls' : List (Nat × Value)) (d : decode b pc = .ok (.lstore i, 2)) (hn : i + 1 < nL) (h : (i, Value.long x) :: ls.filter (fun q => !(q.1 == i) && (!(q.1 == i + 1) && !(q.1 + 1 == i && q.2.category == 2))) = ls') (K : JP l G X nL qa qb σ (pc + 2) ls' st) : JP l G X nL qa qb σ pc ls (.long x :: st) := fun H locs la hz hl => lv_lstore hx.1 hx.2.1 d hl hn h (fun la hl => K H locs la hz hl)
theorem jp_lstore_n (hx : Gp G X b nL own k qa qb) {q : Fin 4} {i : Nat} {x : Int64} (ls' : List (Nat × Value)) (d : decode b pc = .ok (.lstore_n q, 1)) (hi : (q : Nat) = i) (hn : i + 1 < nL) (h : (i, Value.long x) :: ls.filter (fun q => !(q.1 == i) && (!(q.1 == i + 1) && !(q.1 + 1 == i && q.2.category == 2))) = ls') (K : JP l G X nL qa qb σ (pc + 1) ls' st) : JP l G X nL qa qb σ pc ls (.long x :: st) := fun H locs la hz hl => lv_lstore_n hx.1 hx.2.1 d hi hl hn h (fun la hl => K H locs la hz hl)
theorem jp_astore (hx : Gp G X b nL own k qa qb) {i : Nat} {x : Nat} (ls' : List (Nat × Value)) (d : decode b pc = .ok (.astore i, 2)) (hn : i < nL) (h : (i, Value.ref x) :: ls.filter (fun q => !(q.1 == i) && !(q.1 + 1 == i && q.2.category == 2)) = ls') (K : JP l G X nL qa qb σ (pc + 2) ls' st) : JP l G X nL qa qb σ pc ls (.ref x :: st) := fun H locs la hz hl => lv_astore hx.1 hx.2.1 d hl hn h (fun la hl => K H locs la hz hl)
theorem jp_astore_n (hx : Gp G X b nL own k qa qb) {q : Fin 4} {i : Nat} {x : Nat} (ls' : List (Nat × Value)) (d : decode b pc = .ok (.astore_n q, 1)) (hi : (q : Nat) = i) (hn : i < nL) (h : (i, Value.ref x) :: ls.filter (fun q => !(q.1 == i) && !(q.1 + 1 == i && q.2.category == 2)) = ls') (K : JP l G X nL qa qb σ (pc + 1) ls' st) : JP l G X nL qa qb σ pc ls (.ref x :: st) := fun H locs la hz hl => lv_astore_n hx.1 hx.2.1 d hi hl hn h (fun la hl => K H locs la hz hl)
theorem jp_iinc (hx : Gp G X b nL own k qa qb) {i : Nat} {n : Int} {x v : Int32} (ls' : List (Nat × Value)) (d : decode b pc = .ok (.iinc i n, 3)) (z : Nat) (hz9 : ls[z]? = some (i, .int x)) (hv : x + Int32.ofInt n = v) (hn : i < nL) (h : (i, Value.int v) :: ls.filter (fun q => !(q.1 == i) && !(q.1 + 1 == i && q.2.category == 2)) = ls') (K : JP l G X nL qa qb σ (pc + 3) ls' st) : JP l G X nL qa qb σ pc ls st := fun H locs la hz hl => lv_iinc hx.1 hx.2.1 d hl hz9 hv hn h (fun la hl => K H locs la hz hl)

theorem jp_vret (hx : Gp G X b nL own k qa qb) (hq : EP G X qa qb σ') (d : decode b pc = .ok (.return_, 1)) (hs : σ = σ') : JP l G X nL qa qb σ pc ls [] := by
  intro H locs la hz hl
  subst hs
  rw [hq.2]
  exact W.vret hx.1 hx.2.1 hq.1 (fun t ht hW => ⟨⟨σ, rfl, rfl, by show va_P G.2.1 zcl (zwp G qa qb σ) t.heap; rw [ht]; exact hz.1⟩, hz.2.F ht⟩) hz.2.2.2 d hx.2.2.2.2.2.1
theorem jp_get (hx : Gp G X b nL own k qa qb) {ci index : Nat} {C : String} {T : u_T} {N o : Nat} {fs : List Value} {v : Value} (hC : cOK ci C T N) (f : Nat) (hf : f < N) (t : Cond.fieldLink own index (T f).1 (T f).2.1 (T f).2.2.1 ∈ TB) (ho : qa ≤ o ∧ o < qb) (he : zs G o (σ o) = .inr (ci, fs)) (hv : fs[f]? = some v)
    (d : decode b pc = .ok (.getfield index, 3)) (K : JP l G X nL qa qb σ (pc + 3) ls (v :: st)) : JP l G X nL qa qb σ pc ls (.ref (G.1 o) :: st) := by
  intro H locs la hz hl
  obtain ⟨h1, h2, h3, h4, h5, h6, h7, h8, h9⟩ := hx
  exact va_get (C := C) (T := T) (N := N) (ci := ci) h1 h2 h5 hC.2.1 h4 h8 hz.1 (o - qa) (zwp_get' ho he) hC.1 f hf (h5 _ t) (fun _ h => h) hv d (K H locs la hz hl)
theorem jp_put (hx : Gp G X b nL own k qa qb) {ci index : Nat} {C : String} {T : u_T} {N o : Nat} {fs : List Value} {v : Int32} (hC : cOK ci C T N) (f : Nat) (hf : f < N) (t : Cond.fieldLink own index (T f).1 (T f).2.1 (T f).2.2.1 ∈ TB) (ho : qa ≤ o ∧ o < qb) (he : zs G o (σ o) = .inr (ci, fs)) (hi9 : (T f).2.2 = ("I", false)) (hl9 : f < fs.length)
    (hu : zs G o (upd (σ o) f v) = .inr (ci, fs.set f (.int v))) (d : decode b pc = .ok (.putfield index, 3)) (K : JP l G X nL qa qb (up σ o f v) (pc + 3) ls st) : JP l G X nL qa qb σ pc ls (.int v :: .ref (G.1 o) :: st) := by
  intro H locs la hz hl
  obtain ⟨h1, h2, h3, h4, h5, h6, h7, h8, h9⟩ := hx
  obtain ⟨ty0, hty⟩ := hC.2.2.1
  refine va_put (C := C) (T := T) (N := N) (ci := ci) (v := .int v) (ty := .int) h1 h2 h5 hC.2.1 ty0 hty hC.2.2.2 h4 h8 hz.1 (zwp_D h9 σ) hz.2 (o - qa) (zwp_get' ho he) hC.1 f hf (h5 _ t) (fun _ h => h) (by rw [hi9]) (by rw [hi9]; decide +kernel) rfl rfl hl9 d (fun H1 locs1 hP hD hS => ?_)
  rw [zwp_set ho hu] at hP
  exact K H1 locs1 la ⟨hP, hS⟩ hl
theorem jp_iast (hx : Gp G X b nL own k qa qb) {o n : Nat} {i v : Int32} (ho : qa ≤ o ∧ o < qb) (he : ∀ f, zs G o f = zarr G n f) (hin : vp_in i n) (d : decode b pc = .ok (.iastore, 1)) (K : JP l G X nL qa qb (up σ o i.toNatClampNeg v) (pc + 1) ls st) : JP l G X nL qa qb σ pc ls (.int v :: .int i :: .ref (G.1 o) :: st) := by
  intro H locs la hz hl
  obtain ⟨h1, h2, h3, h4, h5, h6, h7, h8, h9⟩ := hx
  refine va_iast h1 h2 h8 hz.1 (zwp_D h9 σ) hz.2 (o - qa) 0 (zwp_get' ho (he _)) rfl hin d (fun H1 locs1 hP hD hS => ?_)
  rw [zwp_set ho (he _)] at hP
  exact K H1 locs1 la ⟨hP, hS⟩ hl
theorem jp_alen (hx : Gp G X b nL own k qa qb) {o n : Nat} {v : Int32} (ho : qa ≤ o ∧ o < qb) (he : zs G o (σ o) = zarr G n (σ o)) (hv : Int32.ofNat n = v) (d : decode b pc = .ok (.arraylength, 1)) (K : JP l G X nL qa qb σ (pc + 1) ls (.int v :: st)) : JP l G X nL qa qb σ pc ls (.ref (G.1 o) :: st) := by
  intro H locs la hz hl
  obtain ⟨h1, h2, h3, h4, h5, h6, h7, h8, h9⟩ := hx
  exact va_alen h1 h2 h8 hz.1 (o - qa) 0 (zwp_get' ho he) rfl hv d (K H locs la hz hl)
theorem jp_callVv (hx : Gp G X b nL own k qa qb) {y : MethodName} {b' : ByteArray} {nL' n k' index : Nat} {T : u_T} {N ci o : Nat} {fs : List Value} {As rest : List Value} (hM : MP l G y b' nL' k' (.ref (G.1 o) :: As) qa qb σ σ') (m1 : mOK y b' nL' none n) (m2 : mV y) (t : Cond.methodLink own index y ∈ TB) (hk : k' < k) (hn : As.length = n) (ho : qa ≤ o ∧ o < qb) (he : zs G o (σ o) = .inr (ci, fs)) (hc : zcl[ci]? = some (y.cls, T, N)) (hst : st = As.reverse ++ .ref (G.1 o) :: rest) (hcat : (rest.map fun v => v.category).sum ≤ 8) (d : decode b pc = .ok (.invokevirtual index, 3)) (K : JP l G X nL qa qb σ' (pc + 3) ls rest) : JP l G X nL qa qb σ pc ls st := by
  intro H locs la hz hl
  obtain ⟨h1, h2, h3, h4, h5, h6, h7, h8, h9⟩ := hx
  have hp : PreV (xs X) H y.cls (G.1 o) (va_Pc (.ref (G.1 o) :: As) (zBp G qa qb σ)) As := ⟨zBp_blind, va_recv h8 hz.1 hc (zwp_get' ho he), fun U hU hW => ⟨rfl, by rw [hU]; exact hz.1, va_K.moved hW.alike h8⟩⟩
  have cw : CallW (xR X) (xs X) (xa X) own y.cls index y b' nL' none (.code y b' nL' none :: TB) (rmK k') 0 0 n := ⟨callB_of n h5 (goodTB m1.1) rfl rfl rfl (h5 _ m1.2.1) (h5 _ t) m1.2.2.1 (zroom h7 hk m1.2.2.2), h5 _ m2.1, h5 _ m2.2⟩
  have hr : va_Run (xp X) l (xe X) (xR X) (xs X) (xm X) (xa X) (xb X) (xh X) (xc X) H locs 0 0 0 0 (F0 (xm X) pc la st) rest (zQp G qa qb σ' (Value.ref (G.1 o) :: As).toArray) (zAp G qa qb) := va_runV ⟨h1, h2, h3, h4, h5⟩ hM cw hp rfl hn hl.1 hst (lv_room hcat) d ⟨Nat.zero_le _, Nat.zero_le _⟩
  refine va_callv hr hz.2 (fun q _ h => h) (fun q h => h) (fun u t H1 locs1 ht hvm hw hB hz1 hk1 hS => ?_)
  obtain rfl := hw
  rw [ht] at hB
  exact K H1 locs1 la ⟨hB, hS⟩ hl
end JPRULES
set_option maxRecDepth 20000 in
set_option maxHeartbeats 4000000 in
theorem p_Row_set {l : Launch} {G : Gz} {qa qb : Nat} (hG : zIp G qa qb) {o oN : Nat} (ho_o : isRow o oN) (hD : qa ≤ o ∧ o + 1 < qb) (σ : St) (i : Int32) (v : Int32) : MP l G y_Row_set prog_9_method_3_code 3 1 [.ref (G.1 (o)), .int i, .int v] qa qb σ (rs σ o oN i v) := by
  refine MP.of hG (by decide) (Nat.le_of_ble_eq_true rfl) (fun X hx hq => ?_)
  show JP l G X 3 qa qb σ 0 [(0, .ref (G.1 (o))), (1, .int i), (2, .int v)] []
  refine jp_iload_n hx d_Row_set_0 rfl 1 rfl ?_
  refine jp_if_lt (tgt := 20) hx d_Row_set_1 (by decide) (fun zc1 => ?_) (fun zc1 => ?_)
  · skip
    exact jp_vret hx hq d_Row_set_20 (by first | (first | exact (rs_lo zc1).symm | exact (rs_hi ho_o.1.2 zc10).symm | exact (rs_in zc1 zc10 ho_o.1.2).symm) | fail)
  · skip
    refine jp_iload_n hx d_Row_set_4 rfl 1 rfl ?_
    refine jp_aload_n hx d_Row_set_5 rfl 0 rfl ?_
    refine jp_get hx ck_Row 0 (by decide) t_47 (by have := ho_o.1; omega) (ho_o.2.1 _ _) rfl d_Row_set_6 ?_
    refine jp_alen hx (by have := ho_o.1; omega) (ho_o.2.2 _ _) rfl d_Row_set_9 ?_
    refine jp_icmp_ge (tgt := 20) hx d_Row_set_10 (by decide) (fun zc10 => ?_) (fun zc10 => ?_)
    · skip
      exact jp_vret hx hq d_Row_set_20 (by first | (first | exact (rs_lo zc1).symm | exact (rs_hi ho_o.1.2 zc10).symm | exact (rs_in zc1 zc10 ho_o.1.2).symm) | fail)
    · skip
      refine jp_aload_n hx d_Row_set_13 rfl 0 rfl ?_
      refine jp_get hx ck_Row 0 (by decide) t_47 (by have := ho_o.1; omega) (ho_o.2.1 _ _) rfl d_Row_set_14 ?_
      refine jp_iload_n hx d_Row_set_17 rfl 1 rfl ?_
      refine jp_iload_n hx d_Row_set_18 rfl 2 rfl ?_
      refine jp_iast hx (by have := ho_o.1; omega) (fun f => ho_o.2.2 _ f) (by exact vp_in_len zc1 zc10 ho_o.1.2) d_Row_set_19 ?_
      exact jp_vret hx hq d_Row_set_20 (by first | (first | exact (rs_lo zc1).symm | exact (rs_hi ho_o.1.2 zc10).symm | exact (rs_in zc1 zc10 ho_o.1.2).symm) | fail)
set_option maxRecDepth 20000 in
set_option maxHeartbeats 4000000 in
theorem p_Law_emit {l : Launch} {G : Gz} {qa qb : Nat} (hG : zIp G qa qb) {o : Nat} (ho_o : isLaw o) (hD : qa ≤ o ∧ o + 8 < qb) (σ : St) (kd : Int32) (num : Int32) : MP l G y_Law_emit prog_5_method_9_code 3 2 [.ref (G.1 (o)), .int kd, .int num] qa qb σ (emt σ o kd num) := by
  refine MP.of hG (by decide) (Nat.le_of_ble_eq_true rfl) (fun X hx hq => ?_)
  show JP l G X 3 qa qb σ 0 [(0, .ref (G.1 (o))), (1, .int kd), (2, .int num)] []
  refine jp_aload_n hx d_Law_emit_0 rfl 0 rfl ?_
  refine jp_get hx ck_Law 0 (by decide) t_159 (by have := ho_o.1; omega) (ho_o.2.1 _ _) rfl d_Law_emit_1 ?_
  refine jp_aload_n hx d_Law_emit_4 rfl 0 rfl ?_
  refine jp_get hx ck_Law 4 (by decide) t_163 (by have := ho_o.1; omega) (ho_o.2.1 _ _) rfl d_Law_emit_5 ?_
  refine jp_iload_n hx d_Law_emit_8 rfl 1 rfl ?_
  refine jp_callVv hx (p_Row_set hG ho_o.2.2.1 (by omega) σ (σ o 4) kd) mo_Row_set mv_Row_set t_155 (by decide) rfl (by have := ho_o.2.2.1.1; omega) (ho_o.2.2.1.2.1 _ _) rfl rfl (Nat.le_of_ble_eq_true rfl) d_Law_emit_9 ?_
  refine jp_aload_n hx d_Law_emit_12 rfl 0 rfl ?_
  refine jp_get hx ck_Law 1 (by decide) t_160 (by have := ho_o.1; omega) (ho_o.2.1 _ _) rfl d_Law_emit_13 ?_
  refine jp_aload_n hx d_Law_emit_16 rfl 0 rfl ?_
  refine jp_get hx ck_Law 4 (by decide) t_163 (by have := ho_o.1; omega) (ho_o.2.1 _ _) rfl d_Law_emit_17 ?_
  refine jp_iload_n hx d_Law_emit_20 rfl 2 rfl ?_
  refine jp_callVv hx (p_Row_set hG ho_o.2.2.2.1 (by omega) (rs σ (o + 1) 150 (σ o 4) kd) ((rs σ (o + 1) 150 (σ o 4) kd) o 4) num) mo_Row_set mv_Row_set t_155 (by decide) rfl (by have := ho_o.2.2.2.1.1; omega) (ho_o.2.2.2.1.2.1 _ _) rfl rfl (Nat.le_of_ble_eq_true rfl) d_Law_emit_21 ?_
  refine jp_aload_n hx d_Law_emit_24 rfl 0 rfl ?_
  refine jp_dup hx d_Law_emit_25 rfl ?_
  refine jp_get hx ck_Law 4 (by decide) t_163 (by have := ho_o.1; omega) (ho_o.2.1 _ _) rfl d_Law_emit_26 ?_
  refine jp_iconst (v := 1) hx d_Law_emit_29 (by decide) ?_
  refine jp_iadd hx d_Law_emit_30 ?_
  refine jp_put hx ck_Law 4 (by decide) t_163 (by have := ho_o.1; omega) (ho_o.2.1 _ _) rfl (Nat.le_of_ble_eq_true rfl) (ho_o.2.1 _ _) d_Law_emit_31 ?_
  exact jp_vret hx hq d_Law_emit_34 (by first | (first | rfl | (simp only []; done) | (simp []; done)) | fail)
set_option maxRecDepth 20000 in
set_option maxHeartbeats 4000000 in
theorem p_Law_reset {l : Launch} {G : Gz} {qa qb : Nat} (hG : zIp G qa qb) {o : Nat} (ho_o : isLaw o) (hD : qa ≤ o ∧ o + 8 < qb) (σ : St) : MP l G y_Law_reset prog_5_method_2_code 1 3 [.ref (G.1 (o))] qa qb σ (lrs σ o) := by
  refine MP.of hG (by decide) (Nat.le_of_ble_eq_true rfl) (fun X hx hq => ?_)
  show JP l G X 1 qa qb σ 0 [(0, .ref (G.1 (o)))] []
  refine jp_aload_n hx d_Law_reset_0 rfl 0 rfl ?_
  refine jp_iconst (v := 0) hx d_Law_reset_1 (by decide) ?_
  refine jp_put hx ck_Law 4 (by decide) t_163 (by have := ho_o.1; omega) (ho_o.2.1 _ _) rfl (Nat.le_of_ble_eq_true rfl) (ho_o.2.1 _ _) d_Law_reset_2 ?_
  obtain ⟨s9_1, eg_1⟩ : ∃ z : St, z = up σ o 4 0 := ⟨_, rfl⟩
  refine JP.to (pc' := 0) (σ' := s9_1) (by rw [eg_1]; first | done | rfl) rfl ?_
  refine jp_aload_n hx d_Law_reset_5 rfl 0 rfl ?_
  refine jp_iconst (v := 0) hx d_Law_reset_6 (by decide) ?_
  refine jp_iconst (v := 0) hx d_Law_reset_7 (by decide) ?_
  refine jp_callVv hx (p_Law_emit hG ho_o hD s9_1 0 0) mo_Law_emit mv_Law_emit t_151 (by decide) rfl (by have := ho_o.1; omega) (ho_o.2.1 _ _) rfl rfl (Nat.le_of_ble_eq_true rfl) d_Law_reset_8 ?_
  obtain ⟨s9_2, eg_2⟩ : ∃ z : St, z = emt s9_1 o 0 0 := ⟨_, rfl⟩
  refine JP.to (pc' := 0) (σ' := s9_2) (by rw [eg_2]; first | done | rfl) rfl ?_
  refine jp_aload_n hx d_Law_reset_11 rfl 0 rfl ?_
  refine jp_bipush (v := 11) hx d_Law_reset_12 (by decide) ?_
  refine jp_iconst (v := 1) hx d_Law_reset_14 (by decide) ?_
  refine jp_callVv hx (p_Law_emit hG ho_o hD s9_2 11 1) mo_Law_emit mv_Law_emit t_151 (by decide) rfl (by have := ho_o.1; omega) (ho_o.2.1 _ _) rfl rfl (Nat.le_of_ble_eq_true rfl) d_Law_reset_15 ?_
  obtain ⟨s9_3, eg_3⟩ : ∃ z : St, z = emt s9_2 o 11 1 := ⟨_, rfl⟩
  refine JP.to (pc' := 0) (σ' := s9_3) (by rw [eg_3]; first | done | rfl) rfl ?_
  refine jp_aload_n hx d_Law_reset_18 rfl 0 rfl ?_
  refine jp_bipush (v := 13) hx d_Law_reset_19 (by decide) ?_
  refine jp_iconst (v := 0) hx d_Law_reset_21 (by decide) ?_
  refine jp_callVv hx (p_Law_emit hG ho_o hD s9_3 13 0) mo_Law_emit mv_Law_emit t_151 (by decide) rfl (by have := ho_o.1; omega) (ho_o.2.1 _ _) rfl rfl (Nat.le_of_ble_eq_true rfl) d_Law_reset_22 ?_
  exact jp_vret hx hq d_Law_reset_25 (by first | (rw [eg_3, eg_2, eg_1]; rfl) | fail)
