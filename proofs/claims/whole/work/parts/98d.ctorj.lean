/-! CONSTRUCTORS: the object under construction stands at G.1 (en 0), what it makes at G.1 (en 1), .. one behind another. -/
def nul : St := fun _ _ => 0
def zblank (ci : Nat) : List Value := match ci with
  | 0 => [.null, .null, .null, .null, .null, .null, .null, .null, .null, .null, .null, .int 0]
  | 1 => [.null, .int 0]
  | 2 => [.null, .null, .null, .int 0, .int 0]
  | 3 => [.null, .null, .null, .null, .int 0]
  | 4 => [.null]
  | 5 => [.null, .null, .null, .null]
  | 6 => [.null, .null, .int 0, .int 0, .int 0, .int 0]
  | 7 => [.null]
  | 8 => [.null, .int 0, .int 0, .int 0, .int 0, .int 0, .int 0]
  | 9 => [.null, .int 0, .int 0]
  | 10 => [.null, .null, .null, .int 0, .int 0, .int 0, .int 0]
  | 11 => [.null, .null, .null, .null, .null, .null, .null, .null, .null, .null, .null, .null, .null, .null, .int 0, .int 0, .int 0]
  | _ => [.int 0, .int 0, .int 0, .int 0, .int 0, .int 0, .int 0, .int 0, .int 0, .null, .null, .null, .null, .null, .null, .null, .null, .null, .null, .null, .null, .null, .null, .int 0, .int 0, .null, .null, .null, .null, .null, .null, .null, .int 0, .null, .null, .null, .null, .int 0, .int 0, .int 0, .int 0, .int 0, .int 0, .int 0, .int 0, .int 0, .int 0, .int 0, .int 0, .int 0]
def zbl (ci : Nat) (T : u_T) (N : Nat) : Prop := ∀ j, j < N → (parseFieldDescriptor (T j).2.2.1).map defaultValue = some (vp_V (zblank ci) j)
def zc (G : Gz) (τ : St) (en : Nat → Nat) (E : va_E) (p : Nat) (pd : Option Nat) (H : Heap) : Prop := va_at G.2.1 zcl (G.1 (en 0), E) H ∧ (∀ k, 1 ≤ k → k < p → va_at G.2.1 zcl (G.1 (en k), zs G (en k) (τ (en k))) H) ∧ ∀ ci, pd = some ci → va_at G.2.1 zcl (G.1 (en p), .inr (ci, zblank ci)) H
def JC (l : Launch) (G : Gz) (X : Cx) (nL : Nat) (τ : St) (en : Nat → Nat) (E : va_E) (p : Nat) (pd : Option Nat) (c9 n9 : Nat) (pc : Nat) (ls : List (Nat × Value)) (st : List Value) : Prop :=
  ∀ (H : Heap) (locs : List Loc) (la : Array Slot), zc G τ en E p pd H ∧ va_S (fun q => G.1 (en 0) ≤ q) (xs X).heap H locs → lv_has la nL ls → W (xp X) l (xe X) (xR X) (xs X) (xm X) (xa X) (xb X) (xh X) (xc X) H locs c9 n9 (xQ X) (F0 (xm X) pc la st)
def Gk (G : Gz) (X : Cx) (b : ByteArray) (nL : Nat) (own : String) (k : Nat) (en : Nat → Nat) (NN C S : Nat) : Prop :=
  (xp X).tables.exec = Jvm.exec ∧ (xc X).code = b ∧ (xc X).maxLocals = nL ∧ (xs X).vm.findClass own = some (xm X).cls ∧ (∀ w ∈ TB, w.before (xa X) (xs X) = true) ∧ (xh X).locks = false ∧ Rm (xR X) k ∧
  va_K G.2.1 zcl (ztys G) (xs X) ∧ zNW (xs X) ∧ (xh X).name = "<init>" ∧ ((∀ j, j < NN → G.1 (en j) = G.1 (en 0) + j) ∧ (xs X).heap.size = G.1 (en 0) + 1 ∧ (xR X).cells = C ∧ (xR X).slots = S)
def rmC (k n S : Nat) : Room := { frames := k, cells := n, slots := S, locals := 60 * k }
def zBc (G : Gz) (ci o : Nat) (U : State) : Prop := U.heap.size = G.1 o + 1 ∧ va_at G.2.1 zcl (G.1 o, .inr (ci, zblank ci)) U.heap ∧ va_K G.2.1 zcl (ztys G) U ∧ zNW U
def zQc (G : Gz) (o n : Nat) (τ : St) : Array Value → State → Outcome → State → Prop := va_Qv (fun (_ : Unit) => True) (fun _ t => ∀ j, j < n → va_at G.2.1 zcl (G.1 (o + j), zs G (o + j) (τ (o + j))) t.heap) (fun q => G.1 o ≤ q)
/-- A CONSTRUCTOR: out of a blank object at o, the newest of all, it makes n objects, o among them, in the state τ -/
def CC (l : Launch) (G : Gz) (y : MethodName) (b : ByteArray) (nL ci k S : Nat) (av : List Value) (o n : Nat) (τ : St) : Prop := Met l y (.code y b nL none :: TB) (rmC k (n - 1) S) (va_Pc (.ref (G.1 o) :: av) (zBc G ci o)) (zQc G o n τ) (n - 1) S (fun q => G.1 o ≤ q)
theorem zBc_blind {G : Gz} {ci o : Nat} {av : List Value} : FrameBlind (va_Pc av (zBc G ci o)) := fun a U g mk h => ⟨h.1, h.2.1, h.2.2.1, va_K.moved (u := U) (U := U.calling g mk a) (Vm.Alike.refl U.vm) h.2.2.2.1, zNW.same (s := U) (U := U.calling g mk a) rfl h.2.2.2.2⟩
def EC (G : Gz) (X : Cx) (o n S : Nat) (τ : St) : Prop := (xh X).sig.returnType = none ∧ xQ X = MQ (xb X) (zQc G o n τ) (xa X) (xs X) (n - 1) S (fun q => G.1 o ≤ q)
theorem CC.of (τ1 : St) {l : Launch} {G : Gz} {y : MethodName} {b : ByteArray} {nL ci k S o n : Nat} {av : List Value} {τ : St} (hcon : ∀ j, j < n → G.1 (o + j) = G.1 o + j) (hy : plainName y.cls = true) (hy2 : y.name = "<init>") (hn : (lg_sl (.ref (G.1 o) :: av)).length ≤ nL)
    (body : ∀ X : Cx, Gk G X b nL y.cls k (fun j => o + j) n (n - 1) S → EC G X o n S τ → JC l G X nL τ1 (fun j => o + j) (.inr (ci, zblank ci)) 1 none 0 0 0 (lv_args 0 (.ref (G.1 o) :: av)) []) : CC l G y b nL ci k S av o n τ := by
  refine Met.ofW (cc := b) (maxL := nL) (ret := none) hy rfl ?_
  intro p e s m args below meth c s₁ B hml hv
  obtain ⟨rfl, hsz, hat, hK, hN⟩ := hv
  have hts := atoms_spec (ws := .code y b nL none :: TB) B.pre
  have hnm : meth.name = "<init>" := (name_of_methodNamed B.named B.method).1.trans hy2
  have h := body ⟨p, e, rmC k (n - 1) S, s, m, (Value.ref (G.1 o) :: av).toArray, below, meth, c, MQ below (zQc G o n τ) (Value.ref (G.1 o) :: av).toArray s (n - 1) S (fun q => G.1 o ≤ q)⟩ ⟨B.exec, B.bytes, hml, findClass_of_methodNamed B.named, fun w hw => hts w (List.mem_cons_of_mem _ hw), B.notSynchronized, ⟨Nat.le_refl _, Nat.le_refl _⟩, hK, hN, hnm, fun j hj => hcon j hj, hsz, rfl, rfl⟩ ⟨B.returns, rfl⟩ s.heap [] _ ⟨⟨hat, fun k h1 h2 => absurd h1 (by omega), fun ci h => by cases h⟩, va_S.rf⟩ (lv_entry (Value.ref (G.1 o) :: av) hn)
  rw [lg_entry_eq]
  exact h
theorem CC.to {l : Launch} {G : Gz} {y : MethodName} {b : ByteArray} {nL ci k S o n : Nat} {av : List Value} {τ τ' : St} (h : CC l G y b nL ci k S av o n τ) (e : ∀ j, j < n → τ (o + j) = τ' (o + j)) : CC l G y b nL ci k S av o n τ' := by
  have : zQc G o n τ = zQc G o n τ' := by
    unfold zQc
    congr 1
    funext u t
    apply propext
    exact ⟨fun z j hj => by rw [← e j hj]; exact z j hj, fun z j hj => by rw [e j hj]; exact z j hj⟩
  unfold CC
  rw [← this]
  exact h
section JCRULES
variable {l : Launch} {G : Gz} {X : Cx} {b : ByteArray} {nL k pc : Nat} {own : String} {τ : St} {en : Nat → Nat} {NN C S : Nat} {E : va_E} {p : Nat} {pd : Option Nat} {c9 n9 : Nat} {ls ls' : List (Nat × Value)} {st : List Value}
theorem W_sz {p : Program} {l : Launch} {e : Env} {R : Room} {s : State} {m : MethodId} {args : Array Value} {below : List Frame} {meth : Method} {c : Code} {H : Heap} {locs : List Loc} {cells slots : Nat} {Q : State → Prop} {g : JFrame} (k : H.size ≤ s.heap.size + cells → W p l e R s m args below meth c H locs cells slots Q g) : W p l e R s m args below meth c H locs cells slots Q g := fun T hT X => k (by rw [← hT]; exact X.same.2.2.1) T hT X
theorem jc_iconst (hx : Gk G X b nL own k en NN C S) {n : Int} {v : Int32} (hdg : decode b pc = .ok (.iconst n, 1)) (hv : Int32.ofInt n = v)     (K : JC l G X nL τ en E p pd c9 n9 (pc + 1) ls (.int v :: st)) : JC l G X nL τ en E p pd c9 n9 pc ls (st) := fun H locs la hz hl => lv_iconst hx.1 hx.2.1 hdg hv (K H locs la hz hl)
theorem jc_bipush (hx : Gk G X b nL own k en NN C S) {n : Int} {v : Int32} (hdg : decode b pc = .ok (.bipush n, 2)) (hv : (Int8.ofInt n).toInt32 = v)     (K : JC l G X nL τ en E p pd c9 n9 (pc + 2) ls (.int v :: st)) : JC l G X nL τ en E p pd c9 n9 pc ls (st) := fun H locs la hz hl => lv_bipush hx.1 hx.2.1 hdg hv (K H locs la hz hl)
theorem jc_sipush (hx : Gk G X b nL own k en NN C S) {n : Int} {v : Int32} (hdg : decode b pc = .ok (.sipush n, 3)) (hv : (Int16.ofInt n).toInt32 = v)     (K : JC l G X nL τ en E p pd c9 n9 (pc + 3) ls (.int v :: st)) : JC l G X nL τ en E p pd c9 n9 pc ls (st) := fun H locs la hz hl => lv_sipush hx.1 hx.2.1 hdg hv (K H locs la hz hl)
theorem jc_lconst (hx : Gk G X b nL own k en NN C S) {n : Fin 2} {v : Int64} (hdg : decode b pc = .ok (.lconst n, 1)) (hv : Int64.ofNat (n : Nat) = v)     (K : JC l G X nL τ en E p pd c9 n9 (pc + 1) ls (.long v :: st)) : JC l G X nL τ en E p pd c9 n9 pc ls (st) := fun H locs la hz hl => lv_lconst hx.1 hx.2.1 hdg hv (K H locs la hz hl)
theorem jc_iadd (hx : Gk G X b nL own k en NN C S) {x y : Int32} (hdg : decode b pc = .ok (.iadd, 1))      (K : JC l G X nL τ en E p pd c9 n9 (pc + 1) ls (.int (x + y) :: st)) : JC l G X nL τ en E p pd c9 n9 pc ls (.int y :: .int x :: st) := fun H locs la hz hl => lv_iadd hx.1 hx.2.1 hdg (K H locs la hz hl)
theorem jc_isub (hx : Gk G X b nL own k en NN C S) {x y : Int32} (hdg : decode b pc = .ok (.isub, 1))      (K : JC l G X nL τ en E p pd c9 n9 (pc + 1) ls (.int (x - y) :: st)) : JC l G X nL τ en E p pd c9 n9 pc ls (.int y :: .int x :: st) := fun H locs la hz hl => lv_isub hx.1 hx.2.1 hdg (K H locs la hz hl)
theorem jc_imul (hx : Gk G X b nL own k en NN C S) {x y : Int32} (hdg : decode b pc = .ok (.imul, 1))      (K : JC l G X nL τ en E p pd c9 n9 (pc + 1) ls (.int (x * y) :: st)) : JC l G X nL τ en E p pd c9 n9 pc ls (.int y :: .int x :: st) := fun H locs la hz hl => lv_imul hx.1 hx.2.1 hdg (K H locs la hz hl)
theorem jc_idiv (hx : Gk G X b nL own k en NN C S) {x y : Int32} (hdg : decode b pc = .ok (.idiv, 1)) (hne : ¬ y = 0)     (K : JC l G X nL τ en E p pd c9 n9 (pc + 1) ls (.int (x / y) :: st)) : JC l G X nL τ en E p pd c9 n9 pc ls (.int y :: .int x :: st) := fun H locs la hz hl => lv_idiv hx.1 hx.2.1 hdg hne (K H locs la hz hl)
theorem jc_irem (hx : Gk G X b nL own k en NN C S) {x y : Int32} (hdg : decode b pc = .ok (.irem, 1)) (hne : ¬ y = 0)     (K : JC l G X nL τ en E p pd c9 n9 (pc + 1) ls (.int (x - x / y * y) :: st)) : JC l G X nL τ en E p pd c9 n9 pc ls (.int y :: .int x :: st) := fun H locs la hz hl => lv_irem hx.1 hx.2.1 hdg hne (K H locs la hz hl)
theorem jc_ineg (hx : Gk G X b nL own k en NN C S) {x : Int32} (hdg : decode b pc = .ok (.ineg, 1))      (K : JC l G X nL τ en E p pd c9 n9 (pc + 1) ls (.int (-x) :: st)) : JC l G X nL τ en E p pd c9 n9 pc ls (.int x :: st) := fun H locs la hz hl => lv_ineg hx.1 hx.2.1 hdg (K H locs la hz hl)
theorem jc_ishl (hx : Gk G X b nL own k en NN C S) {x y : Int32} (hdg : decode b pc = .ok (.ishl, 1))      (K : JC l G X nL τ en E p pd c9 n9 (pc + 1) ls (.int (x <<< (y &&& 31)) :: st)) : JC l G X nL τ en E p pd c9 n9 pc ls (.int y :: .int x :: st) := fun H locs la hz hl => lv_ishl hx.1 hx.2.1 hdg (K H locs la hz hl)
theorem jc_ishr (hx : Gk G X b nL own k en NN C S) {x y : Int32} (hdg : decode b pc = .ok (.ishr, 1))      (K : JC l G X nL τ en E p pd c9 n9 (pc + 1) ls (.int (x >>> (y &&& 31)) :: st)) : JC l G X nL τ en E p pd c9 n9 pc ls (.int y :: .int x :: st) := fun H locs la hz hl => lv_ishr hx.1 hx.2.1 hdg (K H locs la hz hl)
theorem jc_iushr (hx : Gk G X b nL own k en NN C S) {x y v : Int32} (hdg : decode b pc = .ok (.iushr, 1)) (hv : (x.toUInt32 >>> (y.toUInt32 &&& Int32.toUInt32 31)).toInt32 = v)     (K : JC l G X nL τ en E p pd c9 n9 (pc + 1) ls (.int v :: st)) : JC l G X nL τ en E p pd c9 n9 pc ls (.int y :: .int x :: st) := fun H locs la hz hl => lv_iushr hx.1 hx.2.1 hdg hv (K H locs la hz hl)
theorem jc_iand (hx : Gk G X b nL own k en NN C S) {x y : Int32} (hdg : decode b pc = .ok (.iand, 1))      (K : JC l G X nL τ en E p pd c9 n9 (pc + 1) ls (.int (x &&& y) :: st)) : JC l G X nL τ en E p pd c9 n9 pc ls (.int y :: .int x :: st) := fun H locs la hz hl => lv_iand hx.1 hx.2.1 hdg (K H locs la hz hl)
theorem jc_ior (hx : Gk G X b nL own k en NN C S) {x y : Int32} (hdg : decode b pc = .ok (.ior, 1))      (K : JC l G X nL τ en E p pd c9 n9 (pc + 1) ls (.int (x ||| y) :: st)) : JC l G X nL τ en E p pd c9 n9 pc ls (.int y :: .int x :: st) := fun H locs la hz hl => lv_ior hx.1 hx.2.1 hdg (K H locs la hz hl)
theorem jc_ixor (hx : Gk G X b nL own k en NN C S) {x y : Int32} (hdg : decode b pc = .ok (.ixor, 1))      (K : JC l G X nL τ en E p pd c9 n9 (pc + 1) ls (.int (x ^^^ y) :: st)) : JC l G X nL τ en E p pd c9 n9 pc ls (.int y :: .int x :: st) := fun H locs la hz hl => lv_ixor hx.1 hx.2.1 hdg (K H locs la hz hl)
theorem jc_i2l (hx : Gk G X b nL own k en NN C S) {x : Int32} {v : Int64} (hdg : decode b pc = .ok (.i2l, 1)) (hv : x.toInt64 = v)     (K : JC l G X nL τ en E p pd c9 n9 (pc + 1) ls (.long v :: st)) : JC l G X nL τ en E p pd c9 n9 pc ls (.int x :: st) := fun H locs la hz hl => lv_i2l hx.1 hx.2.1 hdg hv (K H locs la hz hl)
theorem jc_ladd (hx : Gk G X b nL own k en NN C S) {x y : Int64} (hdg : decode b pc = .ok (.ladd, 1))      (K : JC l G X nL τ en E p pd c9 n9 (pc + 1) ls (.long (x + y) :: st)) : JC l G X nL τ en E p pd c9 n9 pc ls (.long y :: .long x :: st) := fun H locs la hz hl => lv_ladd hx.1 hx.2.1 hdg (K H locs la hz hl)
theorem jc_lmul (hx : Gk G X b nL own k en NN C S) {x y : Int64} (hdg : decode b pc = .ok (.lmul, 1))      (K : JC l G X nL τ en E p pd c9 n9 (pc + 1) ls (.long (x * y) :: st)) : JC l G X nL τ en E p pd c9 n9 pc ls (.long y :: .long x :: st) := fun H locs la hz hl => lv_lmul hx.1 hx.2.1 hdg (K H locs la hz hl)
theorem jc_ldiv (hx : Gk G X b nL own k en NN C S) {x y : Int64} (hdg : decode b pc = .ok (.ldiv, 1)) (hne : ¬ y = 0)     (K : JC l G X nL τ en E p pd c9 n9 (pc + 1) ls (.long (x / y) :: st)) : JC l G X nL τ en E p pd c9 n9 pc ls (.long y :: .long x :: st) := fun H locs la hz hl => lv_ldiv hx.1 hx.2.1 hdg hne (K H locs la hz hl)
theorem jc_lrem (hx : Gk G X b nL own k en NN C S) {x y : Int64} (hdg : decode b pc = .ok (.lrem, 1)) (hne : ¬ y = 0)     (K : JC l G X nL τ en E p pd c9 n9 (pc + 1) ls (.long (x - x / y * y) :: st)) : JC l G X nL τ en E p pd c9 n9 pc ls (.long y :: .long x :: st) := fun H locs la hz hl => lv_lrem hx.1 hx.2.1 hdg hne (K H locs la hz hl)
theorem jc_dup (hx : Gk G X b nL own k en NN C S) {va : Value} (hdg : decode b pc = .ok (.dup, 1)) (hva : va.category = 1)     (K : JC l G X nL τ en E p pd c9 n9 (pc + 1) ls (va :: va :: st)) : JC l G X nL τ en E p pd c9 n9 pc ls (va :: st) := fun H locs la hz hl => lv_dup hx.1 hx.2.1 hdg hva (K H locs la hz hl)
theorem jc_dup2_11 (hx : Gk G X b nL own k en NN C S) {va vb : Value} (hdg : decode b pc = .ok (.dup2, 1)) (hva : va.category = 1) (hvb : vb.category = 1)     (K : JC l G X nL τ en E p pd c9 n9 (pc + 1) ls (va :: vb :: va :: vb :: st)) : JC l G X nL τ en E p pd c9 n9 pc ls (va :: vb :: st) := fun H locs la hz hl => lv_dup2_11 hx.1 hx.2.1 hdg hva hvb (K H locs la hz hl)
theorem jc_pop (hx : Gk G X b nL own k en NN C S) {va : Value} (hdg : decode b pc = .ok (.pop, 1)) (hva : va.category = 1)     (K : JC l G X nL τ en E p pd c9 n9 (pc + 1) ls (st)) : JC l G X nL τ en E p pd c9 n9 pc ls (va :: st) := fun H locs la hz hl => lv_pop hx.1 hx.2.1 hdg hva (K H locs la hz hl)
theorem jc_i2c (hx : Gk G X b nL own k en NN C S) {x : Int32} {v : Int32} (hdg : decode b pc = .ok (.i2c, 1)) (hv : (x.toUInt32 % 65536).toInt32 = v)     (K : JC l G X nL τ en E p pd c9 n9 (pc + 1) ls (.int v :: st)) : JC l G X nL τ en E p pd c9 n9 pc ls (.int x :: st) := fun H locs la hz hl => lv_i2c hx.1 hx.2.1 hdg hv (K H locs la hz hl)
theorem jc_if_eq (hx : Gk G X b nL own k en NN C S) {x : Int32} {off : Int} {tgt : Nat} (hdg : decode b pc = .ok (.ifCond .eq off, 3)) (ht : (pc : Int) + off = (tgt : Int))     (kt : x = 0 → JC l G X nL τ en E p pd c9 n9 tgt ls st) (kf : ¬ x = 0 → JC l G X nL τ en E p pd c9 n9 (pc + 3) ls st) : JC l G X nL τ en E p pd c9 n9 pc ls (.int x :: st) := fun H locs la hz hl => lv_if_eq hx.1 hx.2.1 hdg ht (fun c9 => kt c9 H locs la hz hl) (fun c9 => kf c9 H locs la hz hl)
theorem jc_if_ne (hx : Gk G X b nL own k en NN C S) {x : Int32} {off : Int} {tgt : Nat} (hdg : decode b pc = .ok (.ifCond .ne off, 3)) (ht : (pc : Int) + off = (tgt : Int))     (kt : ¬ x = 0 → JC l G X nL τ en E p pd c9 n9 tgt ls st) (kf : x = 0 → JC l G X nL τ en E p pd c9 n9 (pc + 3) ls st) : JC l G X nL τ en E p pd c9 n9 pc ls (.int x :: st) := fun H locs la hz hl => lv_if_ne hx.1 hx.2.1 hdg ht (fun c9 => kt c9 H locs la hz hl) (fun c9 => kf c9 H locs la hz hl)
theorem jc_if_lt (hx : Gk G X b nL own k en NN C S) {x : Int32} {off : Int} {tgt : Nat} (hdg : decode b pc = .ok (.ifCond .lt off, 3)) (ht : (pc : Int) + off = (tgt : Int))     (kt : x < 0 → JC l G X nL τ en E p pd c9 n9 tgt ls st) (kf : ¬ x < 0 → JC l G X nL τ en E p pd c9 n9 (pc + 3) ls st) : JC l G X nL τ en E p pd c9 n9 pc ls (.int x :: st) := fun H locs la hz hl => lv_if_lt hx.1 hx.2.1 hdg ht (fun c9 => kt c9 H locs la hz hl) (fun c9 => kf c9 H locs la hz hl)
theorem jc_if_ge (hx : Gk G X b nL own k en NN C S) {x : Int32} {off : Int} {tgt : Nat} (hdg : decode b pc = .ok (.ifCond .ge off, 3)) (ht : (pc : Int) + off = (tgt : Int))     (kt : 0 ≤ x → JC l G X nL τ en E p pd c9 n9 tgt ls st) (kf : ¬ 0 ≤ x → JC l G X nL τ en E p pd c9 n9 (pc + 3) ls st) : JC l G X nL τ en E p pd c9 n9 pc ls (.int x :: st) := fun H locs la hz hl => lv_if_ge hx.1 hx.2.1 hdg ht (fun c9 => kt c9 H locs la hz hl) (fun c9 => kf c9 H locs la hz hl)
theorem jc_if_gt (hx : Gk G X b nL own k en NN C S) {x : Int32} {off : Int} {tgt : Nat} (hdg : decode b pc = .ok (.ifCond .gt off, 3)) (ht : (pc : Int) + off = (tgt : Int))     (kt : 0 < x → JC l G X nL τ en E p pd c9 n9 tgt ls st) (kf : ¬ 0 < x → JC l G X nL τ en E p pd c9 n9 (pc + 3) ls st) : JC l G X nL τ en E p pd c9 n9 pc ls (.int x :: st) := fun H locs la hz hl => lv_if_gt hx.1 hx.2.1 hdg ht (fun c9 => kt c9 H locs la hz hl) (fun c9 => kf c9 H locs la hz hl)
theorem jc_if_le (hx : Gk G X b nL own k en NN C S) {x : Int32} {off : Int} {tgt : Nat} (hdg : decode b pc = .ok (.ifCond .le off, 3)) (ht : (pc : Int) + off = (tgt : Int))     (kt : x ≤ 0 → JC l G X nL τ en E p pd c9 n9 tgt ls st) (kf : ¬ x ≤ 0 → JC l G X nL τ en E p pd c9 n9 (pc + 3) ls st) : JC l G X nL τ en E p pd c9 n9 pc ls (.int x :: st) := fun H locs la hz hl => lv_if_le hx.1 hx.2.1 hdg ht (fun c9 => kt c9 H locs la hz hl) (fun c9 => kf c9 H locs la hz hl)
theorem jc_icmp_eq (hx : Gk G X b nL own k en NN C S) {x y : Int32} {off : Int} {tgt : Nat} (hdg : decode b pc = .ok (.if_icmp .eq off, 3)) (ht : (pc : Int) + off = (tgt : Int))     (kt : x = y → JC l G X nL τ en E p pd c9 n9 tgt ls st) (kf : ¬ x = y → JC l G X nL τ en E p pd c9 n9 (pc + 3) ls st) : JC l G X nL τ en E p pd c9 n9 pc ls (.int y :: .int x :: st) := fun H locs la hz hl => lv_icmp_eq hx.1 hx.2.1 hdg ht (fun c9 => kt c9 H locs la hz hl) (fun c9 => kf c9 H locs la hz hl)
theorem jc_icmp_ne (hx : Gk G X b nL own k en NN C S) {x y : Int32} {off : Int} {tgt : Nat} (hdg : decode b pc = .ok (.if_icmp .ne off, 3)) (ht : (pc : Int) + off = (tgt : Int))     (kt : ¬ x = y → JC l G X nL τ en E p pd c9 n9 tgt ls st) (kf : x = y → JC l G X nL τ en E p pd c9 n9 (pc + 3) ls st) : JC l G X nL τ en E p pd c9 n9 pc ls (.int y :: .int x :: st) := fun H locs la hz hl => lv_icmp_ne hx.1 hx.2.1 hdg ht (fun c9 => kt c9 H locs la hz hl) (fun c9 => kf c9 H locs la hz hl)
theorem jc_icmp_lt (hx : Gk G X b nL own k en NN C S) {x y : Int32} {off : Int} {tgt : Nat} (hdg : decode b pc = .ok (.if_icmp .lt off, 3)) (ht : (pc : Int) + off = (tgt : Int))     (kt : x < y → JC l G X nL τ en E p pd c9 n9 tgt ls st) (kf : ¬ x < y → JC l G X nL τ en E p pd c9 n9 (pc + 3) ls st) : JC l G X nL τ en E p pd c9 n9 pc ls (.int y :: .int x :: st) := fun H locs la hz hl => lv_icmp_lt hx.1 hx.2.1 hdg ht (fun c9 => kt c9 H locs la hz hl) (fun c9 => kf c9 H locs la hz hl)
theorem jc_icmp_ge (hx : Gk G X b nL own k en NN C S) {x y : Int32} {off : Int} {tgt : Nat} (hdg : decode b pc = .ok (.if_icmp .ge off, 3)) (ht : (pc : Int) + off = (tgt : Int))     (kt : y ≤ x → JC l G X nL τ en E p pd c9 n9 tgt ls st) (kf : ¬ y ≤ x → JC l G X nL τ en E p pd c9 n9 (pc + 3) ls st) : JC l G X nL τ en E p pd c9 n9 pc ls (.int y :: .int x :: st) := fun H locs la hz hl => lv_icmp_ge hx.1 hx.2.1 hdg ht (fun c9 => kt c9 H locs la hz hl) (fun c9 => kf c9 H locs la hz hl)
theorem jc_icmp_gt (hx : Gk G X b nL own k en NN C S) {x y : Int32} {off : Int} {tgt : Nat} (hdg : decode b pc = .ok (.if_icmp .gt off, 3)) (ht : (pc : Int) + off = (tgt : Int))     (kt : y < x → JC l G X nL τ en E p pd c9 n9 tgt ls st) (kf : ¬ y < x → JC l G X nL τ en E p pd c9 n9 (pc + 3) ls st) : JC l G X nL τ en E p pd c9 n9 pc ls (.int y :: .int x :: st) := fun H locs la hz hl => lv_icmp_gt hx.1 hx.2.1 hdg ht (fun c9 => kt c9 H locs la hz hl) (fun c9 => kf c9 H locs la hz hl)
theorem jc_icmp_le (hx : Gk G X b nL own k en NN C S) {x y : Int32} {off : Int} {tgt : Nat} (hdg : decode b pc = .ok (.if_icmp .le off, 3)) (ht : (pc : Int) + off = (tgt : Int))     (kt : x ≤ y → JC l G X nL τ en E p pd c9 n9 tgt ls st) (kf : ¬ x ≤ y → JC l G X nL τ en E p pd c9 n9 (pc + 3) ls st) : JC l G X nL τ en E p pd c9 n9 pc ls (.int y :: .int x :: st) := fun H locs la hz hl => lv_icmp_le hx.1 hx.2.1 hdg ht (fun c9 => kt c9 H locs la hz hl) (fun c9 => kf c9 H locs la hz hl)
theorem jc_goto (hx : Gk G X b nL own k en NN C S) {off : Int} {tgt : Nat} (hdg : decode b pc = .ok (.goto off, 3)) (ht : (pc : Int) + off = (tgt : Int)) (K : JC l G X nL τ en E p pd c9 n9 tgt ls st) : JC l G X nL τ en E p pd c9 n9 pc ls st := fun H locs la hz hl => lv_goto hx.1 hx.2.1 hdg ht (K H locs la hz hl)
theorem jc_tableIn (hx : Gk G X b nL own k en NN C S) {dflt lo hi : Int} {offs : Array Int} {len : Nat} {x : Int32} {off : Int} {tgt : Nat} (hdg : decode b pc = .ok (.tableswitch dflt lo hi offs, len)) (h1 : ¬ x.toInt < lo) (h2 : ¬ hi < x.toInt) (ho : offs[(x.toInt - lo).toNat]? = some off) (ht : (pc : Int) + off = (tgt : Int))     (K : JC l G X nL τ en E p pd c9 n9 tgt ls st) : JC l G X nL τ en E p pd c9 n9 pc ls (.int x :: st) := fun H locs la hz hl => lv_tableIn hx.1 hx.2.1 hdg h1 h2 ho ht (K H locs la hz hl)
theorem jc_tableOut (hx : Gk G X b nL own k en NN C S) {dflt lo hi : Int} {offs : Array Int} {len : Nat} {x : Int32} {tgt : Nat} (hdg : decode b pc = .ok (.tableswitch dflt lo hi offs, len)) (h : x.toInt < lo ∨ hi < x.toInt) (ht : (pc : Int) + dflt = (tgt : Int))     (K : JC l G X nL τ en E p pd c9 n9 tgt ls st) : JC l G X nL τ en E p pd c9 n9 pc ls (.int x :: st) := fun H locs la hz hl => lv_tableOut hx.1 hx.2.1 hdg h ht (K H locs la hz hl)
theorem jc_iload (hx : Gk G X b nL own k en NN C S) {i : Nat} {x : Int32} (d : decode b pc = .ok (.iload i, 2)) (z : Nat) (h : ls[z]? = some (i, .int x)) (K : JC l G X nL τ en E p pd c9 n9 (pc + 2) ls (.int x :: st)) : JC l G X nL τ en E p pd c9 n9 pc ls st := fun H locs la hz hl => lv_iload hx.1 hx.2.1 d (lv_at hl z h) (K H locs la hz hl)
theorem jc_iload_n (hx : Gk G X b nL own k en NN C S) {q : Fin 4} {i : Nat} {x : Int32} (d : decode b pc = .ok (.iload_n q, 1)) (hi : (q : Nat) = i) (z : Nat) (h : ls[z]? = some (i, .int x)) (K : JC l G X nL τ en E p pd c9 n9 (pc + 1) ls (.int x :: st)) : JC l G X nL τ en E p pd c9 n9 pc ls st := fun H locs la hz hl => lv_iload_n hx.1 hx.2.1 d hi (lv_at hl z h) (K H locs la hz hl)
theorem jc_lload (hx : Gk G X b nL own k en NN C S) {i : Nat} {x : Int64} (d : decode b pc = .ok (.lload i, 2)) (z : Nat) (h : ls[z]? = some (i, .long x)) (K : JC l G X nL τ en E p pd c9 n9 (pc + 2) ls (.long x :: st)) : JC l G X nL τ en E p pd c9 n9 pc ls st := fun H locs la hz hl => lv_lload hx.1 hx.2.1 d (lv_at hl z h) (K H locs la hz hl)
theorem jc_lload_n (hx : Gk G X b nL own k en NN C S) {q : Fin 4} {i : Nat} {x : Int64} (d : decode b pc = .ok (.lload_n q, 1)) (hi : (q : Nat) = i) (z : Nat) (h : ls[z]? = some (i, .long x)) (K : JC l G X nL τ en E p pd c9 n9 (pc + 1) ls (.long x :: st)) : JC l G X nL τ en E p pd c9 n9 pc ls st := fun H locs la hz hl => lv_lload_n hx.1 hx.2.1 d hi (lv_at hl z h) (K H locs la hz hl)
theorem jc_aload (hx : Gk G X b nL own k en NN C S) {i : Nat} {x : Nat} (d : decode b pc = .ok (.aload i, 2)) (z : Nat) (h : ls[z]? = some (i, .ref x)) (K : JC l G X nL τ en E p pd c9 n9 (pc + 2) ls (.ref x :: st)) : JC l G X nL τ en E p pd c9 n9 pc ls st := fun H locs la hz hl => lv_aload hx.1 hx.2.1 d (lv_at hl z h) (K H locs la hz hl)
theorem jc_aload_n (hx : Gk G X b nL own k en NN C S) {q : Fin 4} {i : Nat} {x : Nat} (d : decode b pc = .ok (.aload_n q, 1)) (hi : (q : Nat) = i) (z : Nat) (h : ls[z]? = some (i, .ref x)) (K : JC l G X nL τ en E p pd c9 n9 (pc + 1) ls (.ref x :: st)) : JC l G X nL τ en E p pd c9 n9 pc ls st := fun H locs la hz hl => lv_aload_n hx.1 hx.2.1 d hi (lv_at hl z h) (K H locs la hz hl)
theorem jc_istore (hx : Gk G X b nL own k en NN C S) {i : Nat} {x : Int32} (ls' : List (Nat × Value)) (d : decode b pc = .ok (.istore i, 2)) (hn : i < nL) (h : (i, Value.int x) :: ls.filter (fun q => !(q.1 == i) && !(q.1 + 1 == i && q.2.category == 2)) = ls') (K : JC l G X nL τ en E p pd c9 n9 (pc + 2) ls' st) : JC l G X nL τ en E p pd c9 n9 pc ls (.int x :: st) := fun H locs la hz hl => lv_istore hx.1 hx.2.1 d hl hn h (fun la hl => K H locs la hz hl)
theorem jc_istore_n (hx : Gk G X b nL own k en NN C S) {q : Fin 4} {i : Nat} {x : Int32} (ls' : List (Nat × Value)) (d : decode b pc = .ok (.istore_n q, 1)) (hi : (q : Nat) = i) (hn : i < nL) (h : (i, Value.int x) :: ls.filter (fun q => !(q.1 == i) && !(q.1 + 1 == i && q.2.category == 2)) = ls') (K : JC l G X nL τ en E p pd c9 n9 (pc + 1) ls' st) : JC l G X nL τ en E p pd c9 n9 pc ls (.int x :: st) := fun H locs la hz hl => lv_istore_n hx.1 hx.2.1 d hi hl hn h (fun la hl => K H locs la hz hl)
theorem jc_lstore (hx : Gk G X b nL own k en NN C S) {i : Nat} {x : Int64} (ls' : List (Nat × Value)) (d : decode b pc = .ok (.lstore i, 2)) (hn : i + 1 < nL) (h : (i, Value.long x) :: ls.filter (fun q => !(q.1 == i) && (!(q.1 == i + 1) && !(q.1 + 1 == i && q.2.category == 2))) = ls') (K : JC l G X nL τ en E p pd c9 n9 (pc + 2) ls' st) : JC l G X nL τ en E p pd c9 n9 pc ls (.long x :: st) := fun H locs la hz hl => lv_lstore hx.1 hx.2.1 d hl hn h (fun la hl => K H locs la hz hl)
theorem jc_lstore_n (hx : Gk G X b nL own k en NN C S) {q : Fin 4} {i : Nat} {x : Int64} (ls' : List (Nat × Value)) (d : decode b pc = .ok (.lstore_n q, 1)) (hi : (q : Nat) = i) (hn : i + 1 < nL) (h : (i, Value.long x) :: ls.filter (fun q => !(q.1 == i) && (!(q.1 == i + 1) && !(q.1 + 1 == i && q.2.category == 2))) = ls') (K : JC l G X nL τ en E p pd c9 n9 (pc + 1) ls' st) : JC l G X nL τ en E p pd c9 n9 pc ls (.long x :: st) := fun H locs la hz hl => lv_lstore_n hx.1 hx.2.1 d hi hl hn h (fun la hl => K H locs la hz hl)
theorem jc_astore (hx : Gk G X b nL own k en NN C S) {i : Nat} {x : Nat} (ls' : List (Nat × Value)) (d : decode b pc = .ok (.astore i, 2)) (hn : i < nL) (h : (i, Value.ref x) :: ls.filter (fun q => !(q.1 == i) && !(q.1 + 1 == i && q.2.category == 2)) = ls') (K : JC l G X nL τ en E p pd c9 n9 (pc + 2) ls' st) : JC l G X nL τ en E p pd c9 n9 pc ls (.ref x :: st) := fun H locs la hz hl => lv_astore hx.1 hx.2.1 d hl hn h (fun la hl => K H locs la hz hl)
theorem jc_astore_n (hx : Gk G X b nL own k en NN C S) {q : Fin 4} {i : Nat} {x : Nat} (ls' : List (Nat × Value)) (d : decode b pc = .ok (.astore_n q, 1)) (hi : (q : Nat) = i) (hn : i < nL) (h : (i, Value.ref x) :: ls.filter (fun q => !(q.1 == i) && !(q.1 + 1 == i && q.2.category == 2)) = ls') (K : JC l G X nL τ en E p pd c9 n9 (pc + 1) ls' st) : JC l G X nL τ en E p pd c9 n9 pc ls (.ref x :: st) := fun H locs la hz hl => lv_astore_n hx.1 hx.2.1 d hi hl hn h (fun la hl => K H locs la hz hl)
theorem jc_iinc (hx : Gk G X b nL own k en NN C S) {i : Nat} {n : Int} {x v : Int32} (ls' : List (Nat × Value)) (d : decode b pc = .ok (.iinc i n, 3)) (z : Nat) (hz9 : ls[z]? = some (i, .int x)) (hv : x + Int32.ofInt n = v) (hn : i < nL) (h : (i, Value.int v) :: ls.filter (fun q => !(q.1 == i) && !(q.1 + 1 == i && q.2.category == 2)) = ls') (K : JC l G X nL τ en E p pd c9 n9 (pc + 3) ls' st) : JC l G X nL τ en E p pd c9 n9 pc ls st := fun H locs la hz hl => lv_iinc hx.1 hx.2.1 d hl hz9 hv hn h (fun la hl => K H locs la hz hl)

/-- how many cells there are -/
theorem jc_size (hx : Gk G X b nL own k en NN C S) (hp : 1 ≤ p) (hpn : p < NN) {H : Heap} (hz : zc G τ en E p none H) (hc : c9 + 1 = p) (hs : H.size ≤ (xs X).heap.size + c9) : H.size = G.1 (en p) := by
  have h10 := hx.2.2.2.2.2.2.2.2.2.2
  have e1 := h10.1 p hpn
  have e2 := h10.2.1
  by_cases h1 : p = 1
  · have := hz.1.lt
    have z : G.1 (en 0) < H.size := this
    omega
  · have := (hz.2.1 (p - 1) (by omega) (by omega)).lt
    have z : G.1 (en (p - 1)) < H.size := this
    rw [h10.1 (p - 1) (by omega)] at z
    omega
theorem jc_sizeP (hx : Gk G X b nL own k en NN C S) (hpn : p < NN) {ci : Nat} {H : Heap} (hz : zc G τ en E p (some ci) H) (hc : c9 = p) (hs : H.size ≤ (xs X).heap.size + c9) : H.size = G.1 (en p) + 1 := by
  have h10 := hx.2.2.2.2.2.2.2.2.2.2
  have e1 := h10.1 p hpn
  have e2 := h10.2.1
  have := (hz.2.2 ci rfl).lt
  have z : G.1 (en p) < H.size := this
  omega
theorem jc_obj (hx : Gk G X b nL own k en NN C S) {idx a : Nat} (t1 : Cond.methodLink own idx Lib.objectInit ∈ TB) (t2 : Cond.instanceMethod Lib.objectInit ∈ TB) (t3 : Cond.code Lib.objectInit ⟨#[0xb1]⟩ 1 none ∈ TB) (h0 : 0 < k) (hst : st = []) (d : decode b pc = .ok (.invokespecial idx, 3)) (K : JC l G X nL τ en E p pd c9 n9 (pc + 3) ls st) : JC l G X nL τ en E p pd c9 n9 pc ls (.ref a :: st) := by
  intro H locs la hz hl
  subst hst
  obtain ⟨h1, h2, h3, h4, h5, h6, h7, h8, h9, h10, h11⟩ := hx
  refine W.objInit h1 h2 h4 (h5 _ t1) (h5 _ t2) (h5 _ t3) rfl (hl.1.trans h3.symm) rfl d ?_ ?_ (K H locs la hz hl)
  · have := h7.1; omega
  · have := h7.2; simp only [List.map_nil, List.sum_nil]; show 0 + 0 + 12 ≤ _; omega
theorem jc_new (hx : Gk G X b nL own k en NN C S) {ci index : Nat} {Cn : String} {T : u_T} {N : Nat} (hC : cOK ci Cn T N) (hb : zbl ci T N) (t1 : Cond.classLink own index Cn ∈ TB) (t2 : Cond.instantiable Cn N ∈ TB) (t3 : Cond.initialized Cn ∈ TB) (hp : 1 ≤ p) (hpn : p < NN) (hc : c9 + 1 = p) (hC9 : c9 + 1 ≤ C) (hS9 : n9 + N ≤ S) (d : decode b pc = .ok (.new index, 3)) (K : JC l G X nL τ en E p (some ci) (c9 + 1) (n9 + N) (pc + 3) ls (.ref (G.1 (en p)) :: st)) : JC l G X nL τ en E p none c9 n9 pc ls st := by
  intro H locs la hz hl
  refine W_sz (fun hs => ?_)
  have hH := jc_size hx hp hpn hz.1 hc hs
  obtain ⟨h1, h2, h3, h4, h5, h6, h7, h8, h9, h10, h11, h12, h13, h14⟩ := hx
  have hKn := h8.1 ci _ hC.1
  obtain ⟨ty, hty⟩ := hC.2.2.1
  refine W.newcK h1 h2 h4 (h5 _ t1) (h5 _ t2) (h5 _ t3) rfl d (by rw [h13]; exact hC9) (by rw [h14]; exact hS9) hKn.2.1 hH fun H1 kC hkC e1 z1 o1 => ?_
  have kp : ∀ q : Nat × va_E, va_at G.2.1 zcl q H → va_at G.2.1 zcl q H1 := fun q hq => hq.kept (o1 q.1 (by rw [← hH]; exact hq.lt))
  refine K H1 locs la ⟨⟨kp _ hz.1.1, fun j a c => kp _ (hz.1.2.1 j a c), fun ci' e => ?_⟩, ⟨Nat.le_trans hz.2.1 (by omega), fun x a c => (o1 x (by rw [← hH]; exact Nat.lt_of_lt_of_le a hz.2.1)).trans (hz.2.2.1 x a c), hz.2.2.2⟩⟩ hl
  cases e
  refine ⟨_, hC.1, (u_born ty h5 hC.2.1 hKn hkC e1 hty).to fun j hj => ?_⟩
  have := hb j hj
  rw [hty j hj] at this
  exact Option.some.inj this
theorem jc_newa (hx : Gk G X b nL own k en NN C S) {n : Int32} {N : Nat} (hn : ¬ n < 0) (hN : n.toNatClampNeg = N) (hN2 : N < 100000) (t1 : Cond.arrayClass .int ∈ TB) (he : zs G (en p) (τ (en p)) = zarr G N (fun _ => 0)) (hp : 1 ≤ p) (hpn : p < NN) (hc : c9 + 1 = p) (hC9 : c9 + 1 ≤ C) (hS9 : n9 + N ≤ S) (d : decode b pc = .ok (.newarray .int, 2)) (K : JC l G X nL τ en E (p + 1) none (c9 + 1) (n9 + N) (pc + 2) ls (.ref (G.1 (en p)) :: st)) : JC l G X nL τ en E p none c9 n9 pc ls (.int n :: st) := by
  intro H locs la hz hl
  refine W_sz (fun hs => ?_)
  have hH := jc_size hx hp hpn hz.1 hc hs
  obtain ⟨h1, h2, h3, h4, h5, h6, h7, h8, h9, h10, h11, h12, h13, h14⟩ := hx
  refine va_newaK (atype := .int) h1 h2 (h5 _ t1) rfl d rfl hn hN (by show N * 4 ≤ _; omega) (by rw [h13]; exact hC9) (by rw [h14]; exact hS9) hH fun H1 cA e1 z1 o1 hAr hNm => ?_
  have kp : ∀ q : Nat × va_E, va_at G.2.1 zcl q H → va_at G.2.1 zcl q H1 := fun q hq => hq.kept (o1 q.1 (by rw [← hH]; exact hq.lt))
  have hcA : cA = G.2.2.1 := by
    have := (h8.2 0 _ rfl).2
    exact Option.some.inj (hNm.symm.trans this)
  refine K H1 locs la ⟨⟨kp _ hz.1.1, fun j a c => ?_, fun ci' e => by cases e⟩, ⟨Nat.le_trans hz.2.1 (by omega), fun x a c => (o1 x (by rw [← hH]; exact Nat.lt_of_lt_of_le a hz.2.1)).trans (hz.2.2.1 x a c), hz.2.2.2⟩⟩ hl
  by_cases hj : j < p
  · exact kp _ (hz.1.2.1 j a hj)
  · have ej : j = p := by omega
    subst ej
    rw [he]
    show H1[G.1 (en j)]? = some (vp_cell G.2.2.1 _)
    rw [vp_cell_i, ← hcA]
    exact e1
theorem jc_putF (hx : Gk G X b nL own k en NN C S) {ci index : Nat} {T : u_T} {N x : Nat} {fs : List Value} {ty : FieldType} (hC : cOK ci own T N) (f : Nat) (hf : f < N) (t : Cond.fieldLink own index (T f).1 (T f).2.1 (T f).2.2.1 ∈ TB) (hfin : (T f).2.2.2 = true) (hdecl : (T f).1 = own) (hd : parseFieldDescriptor (T f).2.2.1 = some ty) (hn : narrow ty (.ref x) = .ref x) (hfit : fits ty (.ref x) = true) (hl9 : f < fs.length) (hE : E = .inr (ci, fs)) (d : decode b pc = .ok (.putfield index, 3)) (hpp : ∀ j, 1 ≤ j → j < p → j < NN) (hpd : pd = none) (K : JC l G X nL τ en (.inr (ci, fs.set f (.ref x))) p pd c9 n9 (pc + 3) ls st) : JC l G X nL τ en E p pd c9 n9 pc ls (.ref x :: .ref (G.1 (en 0)) :: st) := by
  intro H locs la hz hl
  subst hE; subst hpd
  obtain ⟨h1, h2, h3, h4, h5, h6, h7, h8, h9, h10, h11, h12, h13, h14⟩ := hx
  obtain ⟨ty0, hty⟩ := hC.2.2.1
  have hap := va_apart (own := own) h5 hC.2.1 ty0 hty hC.2.2.2 h8 hC.1
  obtain ⟨r, g1, cell, q1, q2, q3, q4⟩ := hz.1.1
  have hr : r = (own, T, N) := Option.some.inj (g1.symm.trans hC.1)
  subst hr
  obtain ⟨hS, hfc, kC, hkC, hkind⟩ := h8.1 ci _ hC.1
  obtain ⟨cf, kf, fi, fd, hi, hsl⟩ := hS f hf
  have hlay := h5 _ (hC.2.1 _ (u_in_lay hf))
  unfold u_lay at hlay
  rw [if_pos hfin] at hlay
  have hst := (u_facts hfc hkC (u_lays h5 hC.2.1 hf) hi).1
  have hcf : (xm X).cls = cf := by
    obtain ⟨_, _, c', _, _, _, -, -, hf', -, -, -, hown2, -⟩ := Cond.laysFinal_spec hlay
    have e1 : c' = cf := by have := hi.symm.trans hf'; simp at this; exact this.1.symm
    rw [hdecl] at hown2
    rw [← e1]; exact Option.some.inj (h4.symm.trans hown2)
  have h6' := u_fits hfc hkC hkind (Or.inr hlay) hi hd hn hfit
  refine W.putFinK h1 h2 h4 (h5 _ t) hi hst hcf h10 (by rw [q2]; exact h6') q1 q3 (by rw [hsl]; exact k2_hasslot (q4 f hf)) rfl rfl d fun H' e1 e2 e3 => ?_
  rw [hsl] at e1 ⊢
  refine K H' _ la ⟨⟨⟨_, hC.1, t_OB.to (V := updV (vp_V fs) f (.ref x)) ⟨_, e1, q2, q3, t_set q4 hap hf _⟩ (fun j _ => vp_updV_set hl9 _ j)⟩, fun j a c => ?_, fun ci' e => by cases e⟩, hz.2.put e2 e3 (Nat.le_refl _)⟩ hl
  refine (hz.1.2.1 j a c).kept (e3 _ ?_)
  show G.1 (en j) ≠ G.1 (en 0)
  rw [h11 j (hpp j a c)]; omega
theorem jc_putI (hx : Gk G X b nL own k en NN C S) {ci index : Nat} {T : u_T} {N : Nat} {v : Int32} {fs : List Value} (hC : cOK ci own T N) (f : Nat) (hf : f < N) (t : Cond.fieldLink own index (T f).1 (T f).2.1 (T f).2.2.1 ∈ TB) (hfin : (T f).2.2 = ("I", false)) (hl9 : f < fs.length) (hE : E = .inr (ci, fs)) (d : decode b pc = .ok (.putfield index, 3)) (hpp : ∀ j, 1 ≤ j → j < p → j < NN) (hpd : pd = none) (K : JC l G X nL τ en (.inr (ci, fs.set f (.int v))) p pd c9 n9 (pc + 3) ls st) : JC l G X nL τ en E p pd c9 n9 pc ls (.int v :: .ref (G.1 (en 0)) :: st) := by
  intro H locs la hz hl
  subst hE; subst hpd
  obtain ⟨h1, h2, h3, h4, h5, h6, h7, h8, h9, h10, h11, h12, h13, h14⟩ := hx
  obtain ⟨ty0, hty⟩ := hC.2.2.1
  have hap := va_apart (own := own) h5 hC.2.1 ty0 hty hC.2.2.2 h8 hC.1
  obtain ⟨r, g1, cell, q1, q2, q3, q4⟩ := hz.1.1
  have hr : r = (own, T, N) := Option.some.inj (g1.symm.trans hC.1)
  subst hr
  obtain ⟨hS, hfc, kC, hkC, hkind⟩ := h8.1 ci _ hC.1
  obtain ⟨cf, kf, fi, fd, hi, hsl⟩ := hS f hf
  have hlay := h5 _ (hC.2.1 _ (u_in_lay hf))
  unfold u_lay at hlay
  rw [if_neg (by rw [hfin]; decide)] at hlay
  have hst := (u_facts hfc hkC (u_lays h5 hC.2.1 hf) hi).1
  have h6' := u_store hfc hkC hkind hlay hi (ty := .int) (v := .int v) (by rw [hfin]; decide +kernel) rfl rfl
  refine W.putK h1 h2 (f := fd) ⟨h4, h5 _ t, ⟨_, _, _, hi⟩, hst⟩ (by rw [q2]; exact h6') q1 q3 (by rw [hsl]; exact k2_hasslot (q4 f hf)) rfl rfl d fun H' e1 e2 e3 => ?_
  rw [hsl] at e1 ⊢
  refine K H' _ la ⟨⟨⟨_, hC.1, t_OB.to (V := updV (vp_V fs) f (.int v)) ⟨_, e1, q2, q3, t_set q4 hap hf _⟩ (fun j _ => vp_updV_set hl9 _ j)⟩, fun j a c => ?_, fun ci' e => by cases e⟩, hz.2.put e2 e3 (Nat.le_refl _)⟩ hl
  refine (hz.1.2.1 j a c).kept (e3 _ ?_)
  show G.1 (en j) ≠ G.1 (en 0)
  rw [h11 j (hpp j a c)]; omega
theorem jc_back (hx : Gk G X b nL own k en NN C S) {ci S' n' : Nat} {av : List Value} (hp : 1 ≤ p) (hpn : p + n' ≤ NN) (hn0 : 0 < n') (hen : ∀ j, j < n' → en (p + j) = en p + j) {rest : List Value} {locs : List Loc} {H : Heap} {la : Array Slot} (hz : zc G τ en E p (some ci) H ∧ va_S (fun q => G.1 (en 0) ≤ q) (xs X).heap H locs) (hl : lv_has la nL ls)
    (hr : va_Run (xp X) l (xe X) (xR X) (xs X) (xm X) (xa X) (xb X) (xh X) (xc X) H locs c9 n9 (n' - 1) S' (F0 (xm X) pc la st) rest (zQc G (en p) n' τ (Value.ref (G.1 (en p)) :: av).toArray) (fun q => G.1 (en p) ≤ q)) (K : JC l G X nL τ en E (p + n') none (c9 + (n' - 1)) (n9 + S') (pc + 3) ls rest) :
    W (xp X) l (xe X) (xR X) (xs X) (xm X) (xa X) (xb X) (xh X) (xc X) H locs c9 n9 (xQ X) (F0 (xm X) pc la st) := by
  obtain ⟨h1, h2, h3, h4, h5, h6, h7, h8, h9, h10, h11, h12, h13, h14⟩ := hx
  have ep := h11 p (by omega)
  refine va_callv hr hz.2 (fun q _ h => Nat.le_trans (by omega) h) (fun q h => Nat.le_trans (by omega) h) (fun u t H1 locs1 ht hvm hw hB hz1 hk1 hS => ?_)
  have kp : ∀ q : Nat × va_E, q.1 < G.1 (en p) → va_at G.2.1 zcl q H → va_at G.2.1 zcl q H1 := fun q hq ha => ha.kept (hk1 q.1 ha.lt (Nat.not_le.mpr hq))
  refine K H1 locs1 la ⟨⟨kp _ (by show G.1 (en 0) < _; omega) hz.1.1, fun j a c => ?_, fun ci' e => by cases e⟩, hS⟩ hl
  by_cases hj : j < p
  · exact kp _ (by show G.1 (en j) < _; rw [h11 j (by omega)]; omega) (hz.1.2.1 j a hj)
  · have := hB (j - p) (by omega)
    rw [ht, ← hen (j - p) (by omega), show p + (j - p) = j by omega] at this
    exact this
theorem jc_pre (hx : Gk G X b nL own k en NN C S) (hpn : p < NN) {ci : Nat} {av : List Value} {locs : List Loc} {H : Heap} (hz : zc G τ en E p (some ci) H ∧ va_S (fun q => G.1 (en 0) ≤ q) (xs X).heap H locs) (hc : c9 = p) (hs : H.size ≤ (xs X).heap.size + c9) : PreS (xs X) H (va_Pc (.ref (G.1 (en p)) :: av) (zBc G ci (en p))) (.ref (G.1 (en p)) :: av) := by
  have hH := jc_sizeP hx hpn hz.1 hc hs
  obtain ⟨h1, h2, h3, h4, h5, h6, h7, h8, h9, h10, h11, h12, h13, h14⟩ := hx
  exact ⟨zBc_blind, fun U hU hW => ⟨rfl, by rw [hU]; exact hH, by rw [hU]; exact hz.1.2.2 ci rfl, va_K.moved hW.alike h8, h9.warm hW⟩⟩
theorem zroomC {R : Room} {k k' nL' n S : Nat} (hR : Rm R k) (h : k' < k) (h2 : nL' ≤ 41) : (rmC k' n S).frames + 1 ≤ R.frames ∧ 8 + (nL' + 11) + (rmC k' n S).locals ≤ R.locals := by
  obtain ⟨h3, h4⟩ := hR
  simp only [rmC]
  omega
/-- the constructor of the newest object is called -/
theorem jc_init (hx : Gk G X b nL own k en NN C S) {y : MethodName} {b' : ByteArray} {nL' ci k' S' n' n index : Nat} {av rest : List Value} (hM : CC l G y b' nL' ci k' S' av (en p) n' τ) (m1 : mOK y b' nL' none n) (m2 : Cond.instanceMethod y ∈ TB) (t : Cond.methodLink own index y ∈ TB) (hy : y.name = "<init>") (hk : k' < k) (hn : av.length = n) (hst : st = av.reverse ++ .ref (G.1 (en p)) :: rest) (hcat : (rest.map fun v => v.category).sum ≤ 8) (hp : 1 ≤ p) (hpn : p + n' ≤ NN) (hn0 : 0 < n') (hen : ∀ j, j < n' → en (p + j) = en p + j) (hc : c9 = p) (hC9 : c9 + (n' - 1) ≤ C) (hS9 : n9 + S' ≤ S) (d : decode b pc = .ok (.invokespecial index, 3)) (K : JC l G X nL τ en E (p + n') none (c9 + (n' - 1)) (n9 + S') (pc + 3) ls rest) : JC l G X nL τ en E p (some ci) c9 n9 pc ls st := by
  intro H locs la hz hl
  refine W_sz (fun hs => ?_)
  have hpr := jc_pre (av := av) hx (by omega) hz hc hs
  have hx0 := hx
  obtain ⟨h1, h2, h3, h4, h5, h6, h7, h8, h9, h10, h11, h12, h13, h14⟩ := hx
  exact jc_back hx0 hp hpn hn0 hen hz hl (va_runI ⟨h1, h2, h3, h4, h5⟩ hM ⟨callB_of n h5 (goodTB m1.1) rfl rfl rfl (h5 _ m1.2.1) (h5 _ t) m1.2.2.1 (zroomC h7 hk m1.2.2.2), hy, h5 _ m2⟩ hpr rfl hn hl.1 hst (lv_room hcat) d ⟨by rw [h13]; exact hC9, by rw [h14]; exact hS9⟩) K
theorem jc_initN (hx : Gk G X b nL own k en NN C S) {y : MethodName} {b' : ByteArray} {nL' ci k' S' n' n index : Nat} {host : String} {av rest : List Value} (hM : CC l G y b' nL' ci k' S' av (en p) n' τ) (m1 : mOK y b' nL' none n) (m2 : Cond.instanceMethod y ∈ TB) (t : Cond.methodLinkNest own index y host ∈ tables_1) (hy : y.name = "<init>") (hk : k' < k) (hn : av.length = n) (hst : st = av.reverse ++ .ref (G.1 (en p)) :: rest) (hcat : (rest.map fun v => v.category).sum ≤ 8) (hp : 1 ≤ p) (hpn : p + n' ≤ NN) (hn0 : 0 < n') (hen : ∀ j, j < n' → en (p + j) = en p + j) (hc : c9 = p) (hC9 : c9 + (n' - 1) ≤ C) (hS9 : n9 + S' ≤ S) (d : decode b pc = .ok (.invokespecial index, 3)) (K : JC l G X nL τ en E (p + n') none (c9 + (n' - 1)) (n9 + S') (pc + 3) ls rest) : JC l G X nL τ en E p (some ci) c9 n9 pc ls st := by
  intro H locs la hz hl
  refine W_sz (fun hs => ?_)
  have hpr := jc_pre (av := av) hx (by omega) hz hc hs
  have hx0 := hx
  obtain ⟨h1, h2, h3, h4, h5, h6, h7, h8, h9, h10, h11, h12, h13, h14⟩ := hx
  exact jc_back hx0 hp hpn hn0 hen hz hl (va_runIN ⟨h1, h2, h3, h4, h5⟩ hM ⟨va_cnB n h5 (goodTB m1.1) rfl rfl rfl (h9.1 _ _ _ _ t) (h5 _ m1.2.1) m1.2.2.1 (zroomC h7 hk m1.2.2.2), hy, h5 _ m2⟩ hpr rfl hn hl.1 hst (lv_room hcat) d ⟨by rw [h13]; exact hC9, by rw [h14]; exact hS9⟩) K
theorem jc_vret {o : Nat} {τ' : St} (hx : Gk G X b nL own k (fun j => o + j) NN C S) (hq : EC G X o p S τ') (d : decode b pc = .ok (.return_, 1)) (hE : E = zs G o (τ o)) (he : ∀ j, j < p → τ (o + j) = τ' (o + j)) (hc : c9 = p - 1) (hn : n9 = S) : JC l G X nL τ (fun j => o + j) E p none c9 n9 pc ls [] := by
  intro H locs la hz hl
  subst hc; subst hn
  rw [hq.2]
  refine W.vret hx.1 hx.2.1 hq.1 (fun t ht hW => ⟨⟨(), rfl, trivial, fun j hj => ?_⟩, hz.2.F ht⟩) hz.2.2.2 d hx.2.2.2.2.2.1
  rw [ht, ← he j hj]
  by_cases h0 : j = 0
  · subst h0
    have := hz.1.1
    rw [hE] at this
    exact this
  · exact hz.1.2.1 j (by omega) hj
theorem jc_mmax (hx : Gk G X b nL own k en NN C S) {x y : Int32} {index : Nat} (t : Cond.methodLink own index Lib.Math.max.name ∈ TB) (h0 : 0 < k) (hcat : (st.map fun v => v.category).sum ≤ 8) (d : decode b pc = .ok (.invokestatic index, 3)) (K : JC l G X nL τ en E p pd c9 n9 (pc + 3) ls (.int (if x < y then y else x) :: st)) (hr : c9 ≤ C ∧ n9 ≤ S) : JC l G X nL τ en E p pd c9 n9 pc ls (.int y :: .int x :: st) := fun H locs la hz hl => va_mmax hx.1 hx.2.1 (hx.2.2.1.trans hl.1.symm) hx.2.2.2.1 (hx.2.2.2.2.1 _ t) (hx.2.2.2.2.1 _ m_max_s) (hx.2.2.2.2.1 _ m_math) (hx.2.2.2.2.1 _ m_max_c) (Nat.lt_of_lt_of_le h0 hx.2.2.2.2.2.2.1.1) (by have := hx.2.2.2.2.2.2.1.2; omega) (by rw [hx.2.2.2.2.2.2.2.2.2.2.2.2.1]; exact hr.1) (by rw [hx.2.2.2.2.2.2.2.2.2.2.2.2.2]; exact hr.2) d (K H locs la hz hl)
end JCRULES
theorem zbl_7 : zbl 7 T_Row 1 := by unfold zbl; decide +kernel
theorem t_oc : Cond.code Lib.objectInit ⟨#[0xb1]⟩ 1 none ∈ TB := t_31
/-- a Row of n -/
theorem CC_Row {l : Launch} {G : Gz} {o N : Nat} {n : Int32} {τ : St} (hcon : ∀ j, j < 2 → G.1 (o + j) = G.1 o + j) (ho : isRow o N) (h0 : τ (o + 1) = fun _ => 0) (hn : ¬ n < 0) (hN : n.toNatClampNeg = N) : CC l G y_Row_init prog_9_method_1_code 2 7 2 N [.int n] o 2 τ := by
  refine CC.of τ hcon (by decide) rfl (Nat.le_of_ble_eq_true rfl) (fun X hx hq => ?_)
  refine jc_aload_n hx d_Row_init_0 rfl 0 rfl ?_
  refine jc_obj hx t_43 t_30 t_oc (by decide) rfl d_Row_init_1 ?_
  refine jc_aload_n hx d_Row_init_4 rfl 0 rfl ?_
  refine jc_iload_n hx d_Row_init_5 rfl 1 rfl ?_
  refine jc_iconst (v := 0) hx d_Row_init_6 (by decide) ?_
  refine jc_mmax hx t_44 (by decide) (Nat.le_of_ble_eq_true rfl) d_Row_init_7 ?_ ⟨Nat.zero_le _, Nat.zero_le _⟩
  rw [if_neg hn]
  refine jc_newa hx hn hN (by have := ho.1.2; omega) t_51 (by rw [h0]; exact ho.2.2 _ _) (Nat.le_refl _) (by decide) rfl (by decide) (Nat.le_of_eq (Nat.zero_add _)) d_Row_init_10 ?_
  refine jc_putF (ty := .array .int) hx ck_Row 0 (by decide) t_47 rfl rfl (by decide +kernel) rfl rfl (by decide) rfl d_Row_init_12 (fun j _ h => h) rfl ?_
  exact jc_vret hx hq d_Row_init_15 (ho.2.1 _ _).symm (fun _ _ => rfl) rfl (Nat.zero_add _)
