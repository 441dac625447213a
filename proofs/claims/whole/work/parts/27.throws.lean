section ZX1
/-- the links of a constructor with a text, whose own row links by ix -/
def zchA (X : String) (ix : Nat) (rx : ByteArray) (Y : String) (r : List String) : List Cond := Bundle.passSAtoms X Y ix rx ++ Bundle.chainSAtoms Y r
def zOwnT (own : String) (ic : Nat) (X : String) : List Cond :=
  [.methodLink own ic (Bundle.initS X), .instantiable X 6, .castable X X, .selects X Bundle.tFill0 Bundle.tFill0, .selects X Bundle.tFill Bundle.tFill,
   .lays X Bundle.tN "cause" "Ljava/lang/Throwable;", .lays X Bundle.tN "stackTrace" Bundle.steD, .lays X Bundle.tN "suppressedExceptions" Bundle.listD, .lays X Bundle.tN "detailMessage" "Ljava/lang/String;",
   .isRef (.static Bundle.tN "UNASSIGNED_STACK" Bundle.steD), .isRef (.static Bundle.tN "SUPPRESSED_SENTINEL" Bundle.listD),
   .fieldLink Bundle.tN 198 Bundle.tN "backtrace" "Ljava/lang/Object;", .lays Bundle.tN Bundle.tN "backtrace" "Ljava/lang/Object;", .lays X Bundle.tN "backtrace" "Ljava/lang/Object;"]
def zOwn (own : String) (ic : Nat) (X : String) (ix : Nat) (rx : ByteArray) (Y : String) (r : List String) : List Cond := Bundle.throwableAtoms ++ Bundle.throwableSAtoms ++ zchA X ix rx Y r ++ zOwnT own ic X
def zAtX (own : String) (ic : Nat) (X : String) (ix : Nat) (rx : ByteArray) (Y : String) (r : List String) : List Cond := (zOwn own ic X ix rx Y r).filter vx_no
theorem zchainX {args : Array Value} {s : State} {pl : Platform} (hpl : pl.magicAccessors = ({} : Platform).magicAccessors) {top : MethodId} (htop : s.methodNamed? (Bundle.initS Bundle.tN) = some top) {ix : Nat} {rx : ByteArray}
    (x0 : decode rx 0 = .ok (.aload_n 0, 1)) (x1 : decode rx 1 = .ok (.aload_n 1, 1)) (x2 : decode rx 2 = .ok (.invokespecial ix, 3)) (x5 : decode rx 5 = .ok (.return_, 1)) (Y : String) (r : List String) (X : String) (hX : Bundle.fit X = true) (hn : ∀ n ∈ Y :: r, Bundle.fit n = true) (h : ∀ c ∈ zchA X ix rx Y r, c.before args s = true) :
    ∃ (P1 : PassC) (Ps : List PassC), Ps.length = (Y :: r).length ∧ P1.LinksS pl s ∧ (∀ P, P ∈ Ps → P.LinksS pl s) ∧ s.methodNamed? (Bundle.initS X) = some P1.m ∧ P1.sup = firstOf top (Ps.map (·.toPassT)) ∧ PassesOn top (Ps.map (·.toPassT)) := by
  obtain ⟨P, L, hm, hs⟩ := PassC.ofS_atoms (args := args) (s := s) hpl (X := X) (Y := Y) (Bundle.fit_spec hX).1 (Bundle.fit_spec (hn Y List.mem_cons_self)).2 x0 x1 x2 x5 (fun c hc => h c (List.mem_append.mpr (Or.inl hc)))
  obtain ⟨Q, Qs, q1, q2, q3, q4, q5, q6⟩ := Bundle.chainS (args := args) hpl htop r Y (hn Y List.mem_cons_self) (fun n h' => hn n (List.mem_cons_of_mem _ h')) (fun c hc => h c (List.mem_append.mpr (Or.inr hc)))
  exact ⟨P, Q :: Qs, congrArg (· + 1) q1, L, fun Z hZ => (List.mem_cons.mp hZ).elim (fun e => by rw [e]; exact q2) (q3 Z), hm, Option.some.inj (hs.symm.trans q4), q5, q6⟩
variable {p : Program} {l : Launch} {e : Env} {R : Room} {s : State} {m₀ : MethodId} {args : Array Value} {below : List Frame} {meth : Method} {c : Code} {W : State} {locs : List Loc} {cells slots : Nat}
set_option maxHeartbeats 1000000 in
theorem zx_ctorMade (X : Stand p l e R s m₀ args below meth c W locs cells slots) (hexec : p.tables.exec = Jvm.exec) (htr : e.platform.stackTraces = false) {own cls : String} {Y0 : String} {r0 : List String} {ic ix : Nat} {rx : ByteArray} (x0 : decode rx 0 = .ok (.aload_n 0, 1)) (x1 : decode rx 1 = .ok (.aload_n 1, 1)) (x2 : decode rx 2 = .ok (.invokespecial ix, 3)) (x5 : decode rx 5 = .ok (.return_, 1))
    (hown : s.vm.findClass own = some m₀.cls) (hcls : Bundle.fit cls = true) (hnames : ∀ n ∈ Y0 :: r0, Bundle.fit n = true)
    (h : ∀ a ∈ zOwn own ic cls ix rx Y0 r0, a.before args s = true)
    (hlocs : ∀ x ∈ locs, ∀ cell, s.heap[x.base]? = some cell → cell.vm.isStatics = false)
    {a : Addr} {cX : ClassId} {kX : Class} (hfoundX : s.vm.findClass cls = some cX) (hkX : s.vm.classes[cX]? = some kX) (hcell : W.heap[a]? = some (freshCell cX kX)) (hnew : s.heap.size ≤ a)
    {msg : Value} (hmsg : msg.isRef = true)
    {g : JFrame} (hg : g.method = m₀) (hsize : g.locals.size = c.maxLocals) {rest : List Value} (hstack : g.stack = msg :: .ref a :: .ref a :: rest)
    (hd6 : decode c.code g.pc = .ok (.invokespecial ic, 3))
    (hRframes : (Y0 :: r0).length + 3 < R.frames) (hRlocals : 2 * g.monitorRoom + ((Value.ref a :: rest).map fun v => v.category).sum + (13 * ((Y0 :: r0).length + 1) + 42) ≤ R.locals) :
    ∃ (V : State) (ce : Cell) (L : List Loc), Stand p l e R s m₀ args below meth c (V.setCell a ce) (locs ++ L) cells slots ∧ (∀ y ∈ L, y.base = a) ∧ a < V.heap.size ∧ ce.cls = cX ∧ ce.vm = .none ∧
      ∀ target, Steps p.tables e below ((V.setCell a ce).setTop { g with stack := .ref a :: rest, pc := g.pc + 3 }) target → Steps p.tables e below (W.setTop g) target := by
  have howns : e.platform.frameOwnsMonitors = true := by rw [X.admits.platform]
  have hfin : e.platform.finalization = false := by rw [X.admits.platform]
  have hpl : e.platform.magicAccessors = ({} : Platform).magicAccessors := by rw [X.admits.platform]
  have a' : ∀ x, x ∈ zOwn own ic cls ix rx Y0 r0 → x.holds args s none s [] = true := fun x hx => h x hx
  obtain ⟨T, Z0, L, -, Y⟩ := ThrowableC.of_atoms (args := args) howns hfin hpl (fun x hx => h x (by simp only [zOwn, List.mem_append]; simp [hx]))
  obtain ⟨Z, M, LZ, LM, hnZ⟩ := Init0T.ofS_atoms (args := args) hpl L Y (fun x hx => h x (by simp only [zOwn, List.mem_append]; simp [hx]))
  obtain ⟨P1, Ps, hlen, L1, hL, hP1m, hlink1, hlink⟩ := zchainX (args := args) hpl hnZ x0 x1 x2 x5 Y0 r0 cls hcls hnames (fun x hx => h x (by simp only [zOwn, List.mem_append]; simp [hx]))
  have hfound : s.vm.findClass cls = some P1.m.cls := findClass_of_methodNamed hP1m
  cases Option.some.inj (hfoundX.symm.trans hfound)
  obtain ⟨c1, kX', hc1, hk, hord, -, -, hn6⟩ := Cond.instantiable_spec (a' (.instantiable cls 6) (by simp [zOwn, zOwnT]))
  cases Option.some.inj (hc1.symm.trans hfound)
  cases Option.some.inj (hkX.symm.trans hk)
  have hsel0 : selectMethod e.platform s.vm P1.m.cls T.fill0 = .method T.fill0 := by
    obtain ⟨c2, r2, m2, q1, q2, q3, q4, -⟩ := Cond.selects_spec (a' (.selects cls Bundle.tFill0 Bundle.tFill0) (by simp [zOwn, zOwnT]))
    cases Option.some.inj (q1.symm.trans hfound)
    cases Option.some.inj (q2.symm.trans (State.methodFound?_of_named Y.fill0 (by decide)))
    cases Option.some.inj (q3.symm.trans Y.fill0)
    rw [Launch.admits_selectMethod X.admits]; exact q4
  have hselF : selectMethod e.platform s.vm P1.m.cls T.fill = .method T.fill := by
    obtain ⟨c2, r2, m2, q1, q2, q3, q4, -⟩ := Cond.selects_spec (a' (.selects cls Bundle.tFill Bundle.tFill) (by simp [zOwn, zOwnT]))
    cases Option.some.inj (q1.symm.trans hfound)
    cases Option.some.inj (q2.symm.trans (State.methodFound?_of_named Y.fill (by decide)))
    cases Option.some.inj (q3.symm.trans Y.fill)
    rw [Launch.admits_selectMethod X.admits]; exact q4
  obtain ⟨cellS0, hcS0, hiss⟩ := Y.statics
  obtain ⟨u0, hu0⟩ := Cond.staticRefV Y.unassigned L.unassignedStatic L.statics hcS0 hiss (a' (.isRef (.static Bundle.tN "UNASSIGNED_STACK" Bundle.steD)) (by simp [zOwn, zOwnT]))
  obtain ⟨sen, hsen⟩ := Cond.staticRefV Y.sentinel L.sentinelStatic L.statics hcS0 hiss (a' (.isRef (.static Bundle.tN "SUPPRESSED_SENTINEL" Bundle.listD)) (by simp [zOwn, zOwnT]))
  obtain ⟨ci198, i198, fB, hk198, hg198, ha198, hsB, -, hnB, htB, hffB⟩ := Cond.ownField (t := .object "java/lang/Object") Y.found L.cls (by decide +kernel) (a' (.fieldLink Bundle.tN 198 Bundle.tN "backtrace" "Ljava/lang/Object;") (by simp [zOwn, zOwnT])) (a' (.lays Bundle.tN Bundle.tN "backtrace" "Ljava/lang/Object;") (by simp [zOwn, zOwnT])) e.platform hpl
  obtain ⟨cellS, hcS', heS, -, hkeep⟩ := X.same.2.2.2.2.2 T.aS cellS0 hcS0
  have hcellS : W.heap[T.aS]? = some cellS := hcS'
  have hout' : ∀ i, (⟨T.aS, i⟩ : Loc) ∉ locs := fun i hmem => by
    have := hlocs _ hmem cellS0 hcS0
    rw [hiss] at this; cases this
  have hknownS : cellS.vm ≠ .unknown := by
    rw [heS]; intro hu
    rw [show cellS0.vm = .unknown from hu] at hiss
    cases hiss
  have hneS : T.aS ≠ a := Nat.ne_of_lt (Nat.lt_of_lt_of_le (Array.getElem?_eq_some_iff.mp hcS0).1 hnew)
  obtain ⟨iM, hffM⟩ := Y.msg
  obtain ⟨tyC, dC, hdC, hdnC⟩ := Cond.laysAt hfound hk Y.cause (a' (.lays cls Bundle.tN "cause" "Ljava/lang/Throwable;") (by simp [zOwn, zOwnT]))
  obtain ⟨tyS, dS, hdS, hdnS⟩ := Cond.laysAt hfound hk Y.stack (a' (.lays cls Bundle.tN "stackTrace" Bundle.steD) (by simp [zOwn, zOwnT]))
  obtain ⟨tyP, dP, hdP, hdnP⟩ := Cond.laysAt hfound hk Y.supp (a' (.lays cls Bundle.tN "suppressedExceptions" Bundle.listD) (by simp [zOwn, zOwnT]))
  obtain ⟨tyM, dM, hdM, hdnM⟩ := Cond.laysAt hfound hk hffM (a' (.lays cls Bundle.tN "detailMessage" "Ljava/lang/String;") (by simp [zOwn, zOwnT]))
  obtain ⟨tyB, dB, hdB, hdnB⟩ := Cond.laysAt hfound hk hffB (a' (.lays cls Bundle.tN "backtrace" "Ljava/lang/Object;") (by simp [zOwn, zOwnT]))
  have bC := Cond.laysApart hdB hdC hdnB hdnC (by rw [hnB, Y.causeName]; decide)
  have bS := Cond.laysApart hdB hdS hdnB hdnS (by rw [hnB, Y.stackName]; decide)
  have bP := Cond.laysApart hdB hdP hdnB hdnP (by rw [hnB, Y.suppName]; decide)
  have hskip : SkipFacts T e.platform s (fun u => u) u0 ((preparedCellV T.toThrowableT (freshCell P1.m.cls kX) a u0 sen).withEntry W.cur) :=
    ⟨{ ci198 := ci198, i198 := i198, fBack := fB }, ⟨hk198, hg198, ha198, hsB⟩, by
      have := fresh_default (c := P1.m.cls) tyB
      rw [htB] at this
      simpa [preparedCellV, Cell.setSlot, Cell.withEntry, Array.getElem?_setIfInBounds, bC, bS, bP, bC.symm, bS.symm, bP.symm, defaultValue] using this, fun _ _ => rfl⟩
  obtain ⟨tm, methC, cdC, kC, vm₁, hnC, -, -, -, -, -, -, -, hW₁, st1⟩ := Steps.initColdS (tb := p.tables) (e := e) (below := below) (s := s) (U := W) X.here hexec X.warmed hpl hown (t := Bundle.initS cls) rfl rfl (Bundle.fit_spec hcls).2
    (a' (.methodLink own ic (Bundle.initS cls)) (by simp [zOwn, zOwnT])) (h (.instanceMethod (Bundle.initS cls)) (by simp [zOwn, zchA, Bundle.passSAtoms])) (bytes := rx) (maxL := 2) (h (.code (Bundle.initS cls) rx 2 none) (by simp [zOwn, zchA, Bundle.passSAtoms]))
    (f := g) hg (a := a) (msg := msg) (rest := .ref a :: rest) hstack hd6
  cases Option.some.inj (hnC.symm.trans hP1m)
  have X₁ := X.noted hW₁
  obtain ⟨vm₂, X₂, st2⟩ := X₁.ctorMessageOffV hexec (g := { g with stack := .ref a :: rest }) hg hsize T L Z LZ M LM (P1 :: Ps)
    (fun P hP => by rcases List.mem_cons.mp hP with rfl | hP; exact L1; exact hL P hP) ⟨hlink1, hlink⟩ (u0 := u0) (sen := sen) (self := a) hmsg (cell := freshCell P1.m.cls kX) (cellS := cellS)
    hcell (fun _ => by simp) (by simp) rfl rfl hsel0 hselF hcellS hneS hknownS (by rw [hkeep _ (hout' _)]; exact hu0) (by rw [hkeep _ (hout' _)]; exact hsen)
    (Takes.of_laid hk hord tyC (by rw [Y.causeType]; rfl)) (Takes.of_laid hk hord tyS (by rw [Y.stackType]; exact fits_refV_array _ u0)) (Takes.of_laid hk hord tyP (by rw [Y.suppType]; exact fits_refV_object _ sen))
    (Takes.of_laid hk hord tyM (by rw [Y.msgType]; exact fits_refV_object _ ⟨msg, hmsg⟩)) Y.objLocals hskip htr [] hd6
    (by simp only [List.length_cons, hlen]; omega) (by simp only [List.length_cons, hlen]; exact hRlocals)
  have hlt : a < ((W.setVm vm₁).setVm vm₂).heap.size := (Array.getElem?_eq_some_iff.mp hcell).1
  refine ⟨(W.setVm vm₁).setVm vm₂, _, _, X₂, fun y hy => ?_, hlt, rfl, rfl, fun target hwalk => st1 _ (fun acts => ?_)⟩
  · simp only [List.mem_cons, List.not_mem_nil, or_false] at hy
    rcases hy with rfl | rfl | rfl | rfl | rfl <;> rfl
  · rw [doInvoke_state]
    exact st2 _ hwalk
end ZX1
section ZX2
variable {p : Program} {l : Launch} {e : Env} {R : Room} {s : State} {m : MethodId} {args : Array Value} {below : List Frame} {meth : Method} {c : Code} {H : Heap} {locs : List Loc} {cells slots : Nat} {Q : State → Prop}
variable {ls : Array Slot} {rest : List Value}
theorem zx_make {cc : ByteArray} {pc : Nat} (hexec : p.tables.exec = Jvm.exec) (hb : c.code = cc) (hl : l.stackTraces = false) {own cls text : String} {Y0 : String} {r0 : List String} {ik is ic sa ix : Nat} {rx : ByteArray} (x0 : decode rx 0 = .ok (.aload_n 0, 1)) (x1 : decode rx 1 = .ok (.aload_n 1, 1)) (x2 : decode rx 2 = .ok (.invokespecial ix, 3)) (x5 : decode rx 5 = .ok (.return_, 1)) {A : Nat → Prop}
    (hown : s.vm.findClass own = some m.cls) (hcls : Bundle.fit cls = true) (hnames : ∀ n ∈ Y0 :: r0, Bundle.fit n = true)
    (hk : (Cond.classLink own ik cls).before args s = true) (hini : (Cond.initialized cls).before args s = true) (hstr : vk_R own is text sa s) (hat : ∀ w ∈ zAtX own ic cls ix rx Y0 r0, w.before args s = true)
    (hgood : ∀ w ∈ Cond.classLink own ik cls :: Cond.initialized cls :: zAtX own ic cls ix rx Y0 r0, vx_ot w = true)
    (hU : vx_Zq Bundle.tN "UNASSIGNED_STACK" Bundle.steD A s s.heap) (hN : vx_Zq Bundle.tN "SUPPRESSED_SENTINEL" Bundle.listD A s s.heap) (hS : va_S A s.heap H locs) (hsize : ls.size = c.maxLocals)
    (d0 : decode cc pc = .ok (.new ik, 3)) (d3 : decode cc (pc + 3) = .ok (.dup, 1)) (d4 : decode cc (pc + 4) = .ok (.ldc_w is, 3)) (d6 : decode cc (pc + 7) = .ok (.invokespecial ic, 3))
    (hRframes : (Y0 :: r0).length + 3 < R.frames) (hRlocals : (rest.map fun v => v.category).sum + (13 * ((Y0 :: r0).length + 1) + 43) ≤ R.locals) (hRcells : cells + 1 ≤ R.cells) (hRslots : slots + 6 ≤ R.slots)
    (kk : ∀ (q : Nat) (H1 : Heap) (ce : Cell), H1[q]? = some ce → ce.vm = .none → s.vm.findClass cls = some ce.cls → H.size ≤ H1.size → (∀ q9 : Nat, q9 < H.size → H1[q9]? = H[q9]?) → va_S A s.heap H1 locs → W p l e R s m args below meth c H1 locs (cells + 1) (slots + 6) Q (F0 m (pc + 10) ls (.ref q :: rest))) :
    W p l e R s m args below meth c H locs cells slots Q (F0 m pc ls rest) := by
  intro T hT X
  subst hT
  have htr : e.platform.stackTraces = false := (show e.platform.stackTraces = l.stackTraces by rw [X.admits.platform]).trans hl
  have Y := vx_rebase X (R' := { frames := R.frames, locals := R.locals, cells := 1, slots := 6 }) (Nat.le_refl _) (Nat.le_refl _) hRcells hRslots
  obtain ⟨s', hA'⟩ : ∃ z, z = (T.setVm s.vm).setFrames (.invoking m args :: below) := ⟨_, rfl⟩
  rw [← hA'] at Y
  have hvm : s'.vm = s.vm := by rw [hA']; rfl
  have hhp : s'.heap = T.heap := by rw [hA']; rfl
  have hW0 : s.WarmedH s'.vm := by rw [hvm]; exact State.WarmedH.refl s
  have hat' : ∀ w ∈ zAtX own ic cls ix rx Y0 r0, w.before args s' = true := fun w hw => vx_ot_at hW0 hvm.symm (hgood w (List.mem_cons_of_mem _ (List.mem_cons_of_mem _ hw))) (hat w hw)
  have hk' : (Cond.classLink own ik cls).before args s' = true := vx_ot_at hW0 hvm.symm (hgood _ List.mem_cons_self) hk
  have hini' : (Cond.initialized cls).before args s' = true := vx_ot_at hW0 hvm.symm (hgood _ (List.mem_cons_of_mem _ List.mem_cons_self)) hini
  have hU' : vx_Zq Bundle.tN "UNASSIGNED_STACK" Bundle.steD A s' s'.heap := by rw [hhp]; exact vx_Zq.moved hW0.alike (hU.kept hS.2.1)
  have hN' : vx_Zq Bundle.tN "SUPPRESSED_SENTINEL" Bundle.listD A s' s'.heap := by rw [hhp]; exact vx_Zq.moved hW0.alike (hN.kept hS.2.1)
  have h : ∀ w ∈ zOwn own ic cls ix rx Y0 r0, w.before args s' = true := vx_own hat' (vx_isRefq hU'.1) (vx_isRefq hN'.1) hU'.2.word hN'.2.word
  have hown' : s'.vm.findClass own = some m.cls := by rw [hvm]; exact hown
  have hins : (Cond.instantiable cls 6).before args s' = true := h _ (by simp [zOwn, zOwnT])
  obtain ⟨vm₁, cX, kX, hfX, hkX, -, -, X₁, st1⟩ := Y.newCold hexec (own := own) (C := cls) (index := ik) (n := 6) hown' hk' hins hini'
    (g := F0 m pc ls rest) rfl (by rw [hb]; exact d0) (Nat.le_refl _) (Nat.le_refl _)
  generalize hT1 : (T.setVm vm₁).pushCell { cls := cX, slots := kX.instanceTypes.map defaultValue, vm := .none } = T1 at X₁ st1
  have hcat : (Value.ref T.heap.size).category = 1 := rfl
  have hcellA : T1.heap[T.heap.size]? = some (freshCell cX kX) := by rw [← hT1]; exact State.heap_pushCell_size _ _
  have d3' : decode c.code (pc + 3) = .ok (.dup, 1) := by rw [hb]; exact d3
  have d4' : decode c.code (pc + 4) = .ok (.ldc_w is, 3) := by rw [hb]; exact d4
  have hstr' : vk_R own is text sa s' := vk_R.warm hW0 hstr
  obtain ⟨V, ce, L, Z, hL, hlt, hcl9, hvm9, st⟩ := zx_ctorMade X₁ hexec htr (own := own) (cls := cls) (Y0 := Y0) (r0 := r0) (ic := ic) x0 x1 x2 x5 hown' hcls hnames h (fun x hx => nomatch hx) hfX hkX hcellA (by rw [hhp]; exact Nat.le_refl _) (msg := .ref sa) rfl
    (g := { method := m, pc := pc + 7, locals := ls, stack := .ref sa :: .ref T.heap.size :: .ref T.heap.size :: rest, locked := none }) rfl hsize (rest := rest) rfl
    (by rw [hb]; exact d6) hRframes (by simp only [List.map_cons, List.sum_cons, hcat]; omega)
  have Z0 := Stand.forget (locs := []) Z (fun y hy => by rw [hL y hy, hhp]; exact Nat.le_refl _)
  obtain ⟨f1, f2⟩ := vx_frame Z0.same
  rw [hhp] at f1 f2
  have hcid : s.vm.findClass cls = some ce.cls := by
    rw [hcl9, ← hvm]; exact hfX
  have hh : (V.setCell T.heap.size ce).heap[T.heap.size]? = some ce := heapAt_setCell_self (s := V) ce hlt
  subst hA'
  have X5 := vx_back9 X Y Z0
  have X6 : Stand p l e R s m args below meth c (V.setCell T.heap.size ce) locs (cells + 1) (slots + 6) := { X5 with same := X5.same.mono (by omega) (by omega) }
  obtain ⟨t, a1, b1⟩ := kk T.heap.size (V.setCell T.heap.size ce).heap ce hh hvm9 hcid f1 (fun q9 h9 => f2 q9 h9 (fun z hz => nomatch hz)) ⟨Nat.le_trans hS.1 f1, fun q h1 h2 => (f2 q (Nat.lt_of_lt_of_le h1 hS.1) (fun z hz => nomatch hz)).trans (hS.2.1 q h1 h2), hS.2.2⟩ _ rfl X6
  refine ⟨t, st1 _ ?_, b1⟩
  show Steps p.tables e below (T1.setTop { method := m, pc := pc + 3, locals := ls, stack := .ref T.heap.size :: rest, locked := none }) _
  jvm_step X₁.here [X₁.here.top, hexec, d3', Value.category]
  exact X₁.ldcStringW hexec (own := own) (text := text) (index := is) (a := sa) hown' hstr'.1 hstr'.2
    (g := { method := m, pc := pc + 4, locals := ls, stack := .ref T.heap.size :: .ref T.heap.size :: rest, locked := none }) rfl d4' _ (st _ a1)
end ZX2
/-! ===== throws: a method that ends by a throw ===== -/
abbrev xIAE : String := "java/lang/IllegalArgumentException"
abbrev xNSE : String := "java/util/NoSuchElementException"
def zXC (G : Gz) (E : String) (σ : St) (sz : Nat) : String → State → State → Prop := vx_X (fun (u : St) => u = σ) (fun E' u t => E' = E ∧ va_P G.2.1 zcl (zw G u) t.heap) (zA G sz)
def zNo (G : Gz) (sz : Nat) : Array Value → State → Outcome → State → Prop := va_Qv (fun (_ : St) => False) (fun _ _ => True) (zA G sz)
/-- y, at these arguments and in the state σ, throws an E and leaves σ' -/
def MX (l : Launch) (G : Gz) (y : MethodName) (b : ByteArray) (nL : Nat) (ret : Option FieldType) (k : Nat) (av : List Value) (σ : St) (E : String) (σ' : St) : Prop := ∀ sz : Nat, vx_Met l y (.code y b nL ret :: TB) (rmX k) (va_Pc av (zB G σ sz)) (zNo G sz) (zXC G E σ' sz) 1 6 (zA G sz)
def EX (G : Gz) (X : Cx) (E : String) (σ : St) : Prop := xQ X = vx_MQ (xb X) (zNo G (xs X).heap.size) (zXC G E σ (xs X).heap.size) (xa X) (xs X) 1 6 (zA G (xs X).heap.size) ∧ (∀ x ∈ (xc X).exceptionTable.toList, False) ∧ 1 ≤ (xR X).cells ∧ 6 ≤ (xR X).slots
theorem MX.of {l : Launch} {G : Gz} {y : MethodName} {b : ByteArray} {nL k : Nat} {ret : Option FieldType} {av : List Value} {σ σ' : St} {E : String} (hG : zI G) (hy : plainName y.cls = true) (hn : (lg_sl av).length ≤ nL) (body : ∀ X : Cx, Gd G X b nL y.cls k → EX G X E σ' → J l G X nL σ 0 (lv_args 0 av) []) : MX l G y b nL ret k av σ E σ' := by
  intro sz
  refine vx_ofW (cc := b) (maxL := nL) (ret := ret) hy rfl ?_
  intro p e s m args below meth c s₁ B hml ht hv
  obtain ⟨rfl, rfl, hP, hK, hX⟩ := hv
  have hts := atoms_spec (ws := .code y b nL ret :: TB) B.pre
  have h := body ⟨p, e, rmX k, s, m, av.toArray, below, meth, c, vx_MQ below (zNo G s.heap.size) (zXC G E σ' s.heap.size) av.toArray s 1 6 (zA G s.heap.size)⟩ ⟨B.exec, B.bytes, hml, findClass_of_methodNamed B.named, fun w hw => hts w (List.mem_cons_of_mem _ hw), B.notSynchronized, ⟨Nat.le_refl _, Nat.le_refl _⟩, hK, hG, hX⟩ ⟨rfl, ht, Nat.le_refl _, Nat.le_refl _⟩ s.heap [] _ ⟨hP, va_S.rf⟩ (lv_entry av hn)
  rw [lg_entry_eq]
  exact h
/-- the words of a throw -/
def rxN : ByteArray := .mk #[0x2a, 0x2b, 0xb7, 0x00, 0x0d, 0xb1]
theorem rxN_0 : decode rxN 0 = .ok (.aload_n 0, 1) := by decide +kernel
theorem rxN_1 : decode rxN 1 = .ok (.aload_n 1, 1) := by decide +kernel
theorem rxN_2 : decode rxN 2 = .ok (.invokespecial 13, 3) := by decide +kernel
theorem rxN_5 : decode rxN 5 = .ok (.return_, 1) := by decide +kernel
def zAt (ic : Nat) (X : String) (ix : Nat) (rx : ByteArray) : List Cond := zAtX "DonkeyLight" ic X ix rx "java/lang/RuntimeException" ["java/lang/Exception"]
def zAg (ic : Nat) (X : String) (ix : Nat) (rx : ByteArray) : Bool := ((zAt ic X ix rx).filter goodWord).all (fun w => decide (w ∈ lw_tbl)) && ((zAt ic X ix rx).filter (fun w => !goodWord w)).all (fun w => match w with | .castable _ _ => decide (w ∈ tables_1) | .declares _ => decide (w ∈ tables_1) | _ => false)
set_option maxRecDepth 100000 in
set_option maxHeartbeats 40000000 in
theorem zAg_I : zAg 399 xIAE 7 Bundle.six = true := by decide +kernel
set_option maxRecDepth 100000 in
set_option maxHeartbeats 40000000 in
theorem zAg_N : zAg 392 xNSE 13 rxN = true := by decide +kernel
set_option maxRecDepth 100000 in
theorem zAo_I : ∀ w ∈ Cond.classLink "DonkeyLight" 395 xIAE :: Cond.initialized xIAE :: zAt 399 xIAE 7 Bundle.six, vx_ot w = true := List.all_eq_true.mp (by decide +kernel)
set_option maxRecDepth 100000 in
theorem zAo_N : ∀ w ∈ Cond.classLink "DonkeyLight" 388 xNSE :: Cond.initialized xNSE :: zAt 392 xNSE 13 rxN, vx_ot w = true := List.all_eq_true.mp (by decide +kernel)
theorem zAt_ok {ic ix : Nat} {rx : ByteArray} {X : String} {args : Array Value} {s : State} (hg : zAg ic X ix rx = true) (hts : ∀ w ∈ TB, w.before args s = true) (hN : zNW s) : ∀ w ∈ zAt ic X ix rx, w.before args s = true := by
  intro w hw
  unfold zAg at hg
  rw [Bool.and_eq_true] at hg
  obtain ⟨h1, h2⟩ := hg
  by_cases g : goodWord w = true
  · have := List.all_eq_true.mp h1 w (List.mem_filter.mpr ⟨hw, g⟩)
    exact hts w (TBm (of_decide_eq_true this) g)
  · have g' : (!goodWord w) = true := by
      cases h : goodWord w
      · rfl
      · exact absurd h g
    have h3 := List.all_eq_true.mp h2 w (List.mem_filter.mpr ⟨hw, g'⟩)
    cases w with
    | castable C T => exact va_Nw.use rfl (hN.2.1 C T (of_decide_eq_true h3))
    | declares x => exact va_Nw.use rfl (hN.2.2.1 x (of_decide_eq_true h3))
    | _ => exact absurd h3 (by simp)
section XR
variable {l : Launch} {G : Gz} {X : Cx} {b : ByteArray} {nL k pc : Nat} {own : String} {σ σ' : St} {ls ls' : List (Nat × Value)} {st : List Value} {E : String}
theorem zXC_of {H : Heap} {locs : List Loc} (hx : Gd G X b nL own k) (hz : zW G X σ H locs) {t : State} (h1 : H.size ≤ t.heap.size) (h2 : ∀ q : Nat, q < H.size → t.heap[q]? = H[q]?) : zXC G E σ (xs X).heap.size E (xs X) t := by
  refine ⟨σ, rfl, ⟨rfl, hz.1.kept fun q' q hq => h2 q.1 (va_at.lt (hz.1 q' q hq))⟩, Nat.le_trans hz.2.1 h1, fun q hq hA => ?_⟩
  rw [h2 q (Nat.lt_of_lt_of_le hq hz.2.1)]
  exact hz.2.2.1 q hq hA
theorem j_throw {cls text : String} {ik is ic sa ix : Nat} {rx : ByteArray} (x0 : decode rx 0 = .ok (.aload_n 0, 1)) (x1 : decode rx 1 = .ok (.aload_n 1, 1)) (x2 : decode rx 2 = .ok (.invokespecial ix, 3)) (x5 : decode rx 5 = .ok (.return_, 1)) (hl : l.stackTraces = false) (hx : Gd G X b nL own k) (hq : EX G X cls σ) (hk6 : 6 ≤ k) (hcls : Bundle.fit cls = true) (hnames : ∀ n ∈ ["java/lang/RuntimeException", "java/lang/Exception"], Bundle.fit n = true)
    (t1 : Cond.classLink own ik cls ∈ TB) (t2 : Cond.initialized cls ∈ TB) (hstr : vk_R own is text sa (xs X)) (hat : ∀ w ∈ zAtX own ic cls ix rx "java/lang/RuntimeException" ["java/lang/Exception"], w.before (xa X) (xs X) = true)
    (hgood : ∀ w ∈ Cond.classLink own ik cls :: Cond.initialized cls :: zAtX own ic cls ix rx "java/lang/RuntimeException" ["java/lang/Exception"], vx_ot w = true) (hst : st = [])
    (d0 : decode b pc = .ok (.new ik, 3)) (d3 : decode b (pc + 3) = .ok (.dup, 1)) (d4 : decode b (pc + 4) = .ok (.ldc_w is, 3)) (d7 : decode b (pc + 7) = .ok (.invokespecial ic, 3)) (d10 : decode b (pc + 10) = .ok (.athrow, 1)) : J l G X nL σ pc ls st := by
  intro H locs la hz hl9
  subst hst
  obtain ⟨q1, q2, q3, q4⟩ := hq
  rw [q1]
  have hx0 := hx
  obtain ⟨h1, h2, h3, h4, h5, h6, h7, h8, h9, h10⟩ := hx
  refine zx_make (cls := cls) (text := text) (Y0 := "java/lang/RuntimeException") (r0 := ["java/lang/Exception"]) (ik := ik) (is := is) (ic := ic) (sa := sa) (A := zA G (xs X).heap.size) h1 h2 hl x0 x1 x2 x5 h4 hcls hnames (h5 _ t1) (h5 _ t2) hstr hat hgood h10.2.2.2.2.1 h10.2.2.2.2.2.1 hz.2 (hl9.1.trans h3.symm) d0 d3 d4 d7 ?_ ?_ (by omega) (by omega) ?_
  · have := h7.1; simp only [List.length_cons, List.length_nil]; omega
  · have := h7.2; simp only [List.map_nil, List.sum_nil, List.length_cons, List.length_nil]; omega
  · intro q H1 ce hc hv hcl hs1 hk1 hS
    refine vx_athrow h1 h2 d10 ?_
    exact vx_out (mc := 1) (ms := 6) (fun x hx9 => (q2 x hx9).elim) h6 hc hv hcl (fun t2 h11 _ => zXC_of hx0 hz (by rw [h11]; exact hs1) (fun q9 h12 => by rw [h11]; exact hk1 q9 h12)) hS.2.2 (by omega) (by omega)
theorem zroomX {R : Room} {k k' nL' : Nat} (hR : Rm R k) (h : k' < k) (h2 : nL' ≤ 41) : (rmX k').frames + 1 ≤ R.frames ∧ 8 + (nL' + 11) + (rmX k').locals ≤ R.locals := by
  obtain ⟨h3, h4⟩ := hR
  simp only [rmX]
  omega
theorem zcwX {y : MethodName} {b' : ByteArray} {nL' n k' index : Nat} {ret : Option FieldType} (hx : Gd G X b nL own k) (m1 : mOK y b' nL' ret n) (m2 : mV y) (t : Cond.methodLink own index y ∈ TB) (hk : k' < k) : CallW (xR X) (xs X) (xa X) own y.cls index y b' nL' ret (.code y b' nL' ret :: TB) (rmX k') 1 6 n := by
  obtain ⟨h1, h2, h3, h4, h5, h6, h7, h8, h9, h10⟩ := hx
  exact ⟨callB_of n h5 (goodTB m1.1) rfl rfl rfl (h5 _ m1.2.1) (h5 _ t) m1.2.2.1 (zroomX h7 hk m1.2.2.2), h5 _ m2.1, h5 _ m2.2⟩
/-- a call that throws: this method throws what it threw -/
theorem j_xcall (hx : Gd G X b nL own k) (hq : EX G X E σ') {y : MethodName} {b' : ByteArray} {nL' n k' index : Nat} {ret : Option FieldType} {T : u_T} {N ci o : Nat} {fs : List Value} {As rest : List Value} (hM : MX l G y b' nL' ret k' (.ref (G.1 o) :: As) σ E σ') (m1 : mOK y b' nL' ret n) (m2 : mV y) (t : Cond.methodLink own index y ∈ TB) (hk : k' < k) (hn : As.length = n) (ho : o < 610) (he : zs G o (σ o) = .inr (ci, fs)) (hc : zcl[ci]? = some (y.cls, T, N)) (hst : st = As.reverse ++ .ref (G.1 o) :: rest) (hcat : (rest.map fun v => v.category).sum ≤ 8) (d : decode b pc = .ok (.invokevirtual index, 3)) : J l G X nL σ pc ls st := by
  intro H locs la hz hl
  obtain ⟨q1, q2, q3, q4⟩ := hq
  rw [q1]
  have hp : PreV (xs X) H y.cls (G.1 o) (va_Pc (.ref (G.1 o) :: As) (zB G σ H.size)) As := ⟨zB_blind, va_recv hx.2.2.2.2.2.2.2.1 hz.1 hc (zw_get' ho he), fun U hU hW => ⟨rfl, zBof hx hz hU hW⟩⟩
  have hr := vx_runV (mc := 1) (ms := 6) (locs := locs) (cells := 0) (slots := 0) (g := F0 (xm X) pc la st) (rest := rest) (b := G.1 o) (As := As) (e := xe X) (below := xb X) (meth := xh X) (zfix hx) (hM H.size) (zcwX hx m1 m2 t hk) hp rfl hn hl.1 hst (lv_room hcat) d ⟨by omega, by omega⟩
  refine vx_callv hr hz.2 (fun q _ h => zafter hz.2 q h) (zafter hz.2) (fun q _ h => zafter hz.2 q h) ?_ ?_
  · intro E' ce q9 u t1 H1 locs1 ht hvm hu hB hz1 hk1 hS hcell hv hcl
    obtain ⟨rfl, hP⟩ := hB
    subst hu
    subst ht
    have hz9 : zW G X u t1.heap locs1 := ⟨hP, hS⟩
    exact vx_out (mc := 1) (ms := 6) (fun x hx9 => (q2 x hx9).elim) hx.2.2.2.2.2.1 hcell hv hcl (fun t2 h2 _ => zXC_of hx hz9 (Nat.le_of_eq (by rw [h2])) (fun q _ => by rw [h2])) hS.2.2 (by omega) (by omega)
  · intro u t1 H1 locs1 ht hvm hu
    exact hu.elim
end XR

set_option maxRecDepth 20000 in
set_option maxHeartbeats 4000000 in
theorem x_DL_needWithin {l : Launch} (hl : l.stackTraces = false) {G : Gz} (hG : zI G) (σ : St) (v : Int32) (lo : Int32) (hi : Int32) (h : ¬ ((¬ v < lo) ∧ (v ≤ hi))) : MX l G y_DL_needWithin prog_1_method_42_code 4 none 6 [.ref (G.1 0), .int v, .int lo, .int hi] σ xIAE (up σ 0 16 (σ 0 16 + 1)) := by
  refine MX.of hG (by decide) (Nat.le_of_ble_eq_true rfl) (fun X hx hq => ?_)
  show J l G X 4 σ 0 [(0, .ref (G.1 0)), (1, .int v), (2, .int lo), (3, .int hi)] []
  refine j_iload_n hx d_DL_needWithin_0 rfl 1 rfl ?_
  refine j_iload_n hx d_DL_needWithin_1 rfl 2 rfl ?_
  refine j_icmp_lt (tgt := 10) hx d_DL_needWithin_2 (by decide) (fun zc2 => ?_) (fun zc2 => ?_)
  · skip
    refine j_aload_n hx d_DL_needWithin_10 rfl 0 rfl ?_
    refine j_dup hx d_DL_needWithin_11 rfl ?_
    refine j_get hx ck_DL 16 (by decide) t_342 (by decide) (sh_0 _ _) rfl d_DL_needWithin_12 ?_
    refine j_iconst (v := 1) hx d_DL_needWithin_15 (by decide) ?_
    refine j_iadd hx d_DL_needWithin_16 ?_
    refine j_put hx ck_DL 16 (by decide) t_342 (by decide) (sh_0 _ _) rfl (Nat.le_of_ble_eq_true rfl) (sh_0 _ _) d_DL_needWithin_17 ?_
    exact j_throw (text := "a number outside its bounds") (ik := 395) (is := 397) (ic := 399) Bundle.six_0 Bundle.six_1 Bundle.six_2 Bundle.six_5 hl hx hq (by decide) (by decide +kernel) (by decide +kernel) t_566 t_18 hx.2.2.2.2.2.2.2.2.2.2.2.1.1 (zAt_ok zAg_I hx.2.2.2.2.1 hx.2.2.2.2.2.2.2.2.2.1) zAo_I rfl d_DL_needWithin_20 d_DL_needWithin_23 d_DL_needWithin_24 d_DL_needWithin_27 d_DL_needWithin_30
  · skip
    refine j_iload_n hx d_DL_needWithin_5 rfl 1 rfl ?_
    refine j_iload_n hx d_DL_needWithin_6 rfl 3 rfl ?_
    refine j_icmp_le (tgt := 31) hx d_DL_needWithin_7 (by decide) (fun zc7 => ?_) (fun zc7 => ?_)
    · exact absurd ⟨zc2, zc7⟩ h
    · skip
      refine j_aload_n hx d_DL_needWithin_10 rfl 0 rfl ?_
      refine j_dup hx d_DL_needWithin_11 rfl ?_
      refine j_get hx ck_DL 16 (by decide) t_342 (by decide) (sh_0 _ _) rfl d_DL_needWithin_12 ?_
      refine j_iconst (v := 1) hx d_DL_needWithin_15 (by decide) ?_
      refine j_iadd hx d_DL_needWithin_16 ?_
      refine j_put hx ck_DL 16 (by decide) t_342 (by decide) (sh_0 _ _) rfl (Nat.le_of_ble_eq_true rfl) (sh_0 _ _) d_DL_needWithin_17 ?_
      exact j_throw (text := "a number outside its bounds") (ik := 395) (is := 397) (ic := 399) Bundle.six_0 Bundle.six_1 Bundle.six_2 Bundle.six_5 hl hx hq (by decide) (by decide +kernel) (by decide +kernel) t_566 t_18 hx.2.2.2.2.2.2.2.2.2.2.2.1.1 (zAt_ok zAg_I hx.2.2.2.2.1 hx.2.2.2.2.2.2.2.2.2.1) zAo_I rfl d_DL_needWithin_20 d_DL_needWithin_23 d_DL_needWithin_24 d_DL_needWithin_27 d_DL_needWithin_30

set_option maxRecDepth 20000 in
set_option maxHeartbeats 4000000 in
theorem x_DL_needThere {l : Launch} (hl : l.stackTraces = false) {G : Gz} (hG : zI G) (σ : St) (kd : Int32) (j : Int32) (h : ¬ ((¬ j < 0) ∧ (j < rg (σ 6) 6 kd))) : MX l G y_DL_needThere prog_1_method_41_code 3 none 6 [.ref (G.1 0), .int kd, .int j] σ xNSE (up σ 0 15 (σ 0 15 + 1)) := by
  refine MX.of hG (by decide) (Nat.le_of_ble_eq_true rfl) (fun X hx hq => ?_)
  show J l G X 3 σ 0 [(0, .ref (G.1 0)), (1, .int kd), (2, .int j)] []
  refine j_iload_n hx d_DL_needThere_0 rfl 2 rfl ?_
  refine j_if_lt (tgt := 19) hx d_DL_needThere_1 (by decide) (fun zc1 => ?_) (fun zc1 => ?_)
  · skip
    refine j_aload_n hx d_DL_needThere_19 rfl 0 rfl ?_
    refine j_dup hx d_DL_needThere_20 rfl ?_
    refine j_get hx ck_DL 15 (by decide) t_341 (by decide) (sh_0 _ _) rfl d_DL_needThere_21 ?_
    refine j_iconst (v := 1) hx d_DL_needThere_24 (by decide) ?_
    refine j_iadd hx d_DL_needThere_25 ?_
    refine j_put hx ck_DL 15 (by decide) t_341 (by decide) (sh_0 _ _) rfl (Nat.le_of_ble_eq_true rfl) (sh_0 _ _) d_DL_needThere_26 ?_
    exact j_throw (text := "no such one stands on the coast") (ik := 388) (is := 390) (ic := 392) rxN_0 rxN_1 rxN_2 rxN_5 hl hx hq (by decide) (by decide +kernel) (by decide +kernel) t_988 t_23 hx.2.2.2.2.2.2.2.2.2.2.2.1.2.2.2.2 (zAt_ok zAg_N hx.2.2.2.2.1 hx.2.2.2.2.2.2.2.2.2.1) zAo_N rfl d_DL_needThere_29 d_DL_needThere_32 d_DL_needThere_33 d_DL_needThere_36 d_DL_needThere_39
  · skip
    refine j_iload_n hx d_DL_needThere_4 rfl 2 rfl ?_
    refine j_aload_n hx d_DL_needThere_5 rfl 0 rfl ?_
    refine j_get hx ck_DL 1 (by decide) t_327 (by decide) (sh_0 _ _) rfl d_DL_needThere_6 ?_
    refine j_get hx ck_Coast 0 (by decide) t_85 (by decide) (sh_4 _ _) rfl d_DL_needThere_9 ?_
    refine j_iload_n hx d_DL_needThere_12 rfl 1 rfl ?_
    refine j_callVi hx (c_Row_getA hG ir_5 6 rfl σ kd) mo_Row_get mv_Row_get t_475 (by decide) rfl (by decide) (sh_5 _ _) rfl rfl (Nat.le_of_ble_eq_true rfl) d_DL_needThere_13 ?_
    refine j_icmp_lt (tgt := 40) hx d_DL_needThere_16 (by decide) (fun zc16 => ?_) (fun zc16 => ?_)
    · exact absurd ⟨zc1, zc16⟩ h
    · skip
      refine j_aload_n hx d_DL_needThere_19 rfl 0 rfl ?_
      refine j_dup hx d_DL_needThere_20 rfl ?_
      refine j_get hx ck_DL 15 (by decide) t_341 (by decide) (sh_0 _ _) rfl d_DL_needThere_21 ?_
      refine j_iconst (v := 1) hx d_DL_needThere_24 (by decide) ?_
      refine j_iadd hx d_DL_needThere_25 ?_
      refine j_put hx ck_DL 15 (by decide) t_341 (by decide) (sh_0 _ _) rfl (Nat.le_of_ble_eq_true rfl) (sh_0 _ _) d_DL_needThere_26 ?_
      exact j_throw (text := "no such one stands on the coast") (ik := 388) (is := 390) (ic := 392) rxN_0 rxN_1 rxN_2 rxN_5 hl hx hq (by decide) (by decide +kernel) (by decide +kernel) t_988 t_23 hx.2.2.2.2.2.2.2.2.2.2.2.1.2.2.2.2 (zAt_ok zAg_N hx.2.2.2.2.1 hx.2.2.2.2.2.2.2.2.2.1) zAo_N rfl d_DL_needThere_29 d_DL_needThere_32 d_DL_needThere_33 d_DL_needThere_36 d_DL_needThere_39

set_option maxRecDepth 20000 in
set_option maxHeartbeats 4000000 in
theorem x_DL_needShips {l : Launch} (hl : l.stackTraces = false) {G : Gz} (hG : zI G) (σ : St) (ships : Int32) (hbad : ¬ (((¬ ships < 0) ∧ (ships ≤ ((1 <<< ((rg (σ (5 + 1)) 6 3) &&& 31)) - 1))))) : MX l G y_DL_needShips prog_1_method_43_code 2 none 7 [.ref (G.1 0), .int ships] σ xIAE (up σ 0 16 (σ 0 16 + 1)) := by
  refine MX.of hG (by decide) (Nat.le_of_ble_eq_true rfl) (fun X hx hq => ?_)
  show J l G X 2 σ 0 [(0, .ref (G.1 0)), (1, .int ships)] []
  refine j_aload_n hx d_DL_needShips_0 rfl 0 rfl ?_
  refine j_iload_n hx d_DL_needShips_1 rfl 1 rfl ?_
  refine j_iconst (v := 0) hx d_DL_needShips_2 (by decide) ?_
  refine j_iconst (v := 1) hx d_DL_needShips_3 (by decide) ?_
  refine j_aload_n hx d_DL_needShips_4 rfl 0 rfl ?_
  refine j_get hx ck_DL 1 (by decide) t_327 (by decide) (sh_0 _ _) rfl d_DL_needShips_5 ?_
  refine j_get hx ck_Coast 0 (by decide) t_85 (by decide) (sh_4 _ _) rfl d_DL_needShips_8 ?_
  refine j_iconst (v := 3) hx d_DL_needShips_11 (by decide) ?_
  refine j_callVi hx (c_Row_getA hG ir_5 6 rfl σ 3) mo_Row_get mv_Row_get t_475 (by decide) rfl (by decide) (sh_5 _ _) rfl rfl (Nat.le_of_ble_eq_true rfl) d_DL_needShips_12 ?_
  refine j_ishl hx d_DL_needShips_15 ?_
  refine j_iconst (v := 1) hx d_DL_needShips_16 (by decide) ?_
  refine j_isub hx d_DL_needShips_17 ?_
  by_cases hn18 : ((¬ ships < 0) ∧ (ships ≤ ((1 <<< ((rg (σ (5 + 1)) 6 3) &&& 31)) - 1)))
  · skip
    exact absurd hn18 hbad
  exact j_xcall hx hq (x_DL_needWithin hl hG σ ships 0 ((1 <<< ((rg (σ (5 + 1)) 6 3) &&& 31)) - 1) hn18) mo_DL_needWithin mv_DL_needWithin t_562 (by decide) rfl (by decide) (sh_0 _ _) rfl rfl (Nat.le_of_ble_eq_true rfl) d_DL_needShips_18

set_option maxRecDepth 20000 in
set_option maxHeartbeats 4000000 in
theorem x_DL_openText {l : Launch} (hl : l.stackTraces = false) {G : Gz} (hG : zI G) (σ : St) (n : Int32) (lg : Int32) (hbad : ¬ (((¬ n < 0) ∧ (n ≤ (if (σ 1 1) < lg then (σ 1 1) else lg))))) : MX l G y_DL_openText prog_1_method_40_code 3 none 7 [.ref (G.1 0), .int n, .int lg] σ xIAE (up σ 0 16 (σ 0 16 + 1)) := by
  refine MX.of hG (by decide) (Nat.le_of_ble_eq_true rfl) (fun X hx hq => ?_)
  show J l G X 3 σ 0 [(0, .ref (G.1 0)), (1, .int n), (2, .int lg)] []
  refine j_aload_n hx d_DL_openText_0 rfl 0 rfl ?_
  refine j_iload_n hx d_DL_openText_1 rfl 1 rfl ?_
  refine j_iconst (v := 0) hx d_DL_openText_2 (by decide) ?_
  refine j_iload_n hx d_DL_openText_3 rfl 2 rfl ?_
  refine j_aload_n hx d_DL_openText_4 rfl 0 rfl ?_
  refine j_get hx ck_DL 0 (by decide) t_326 (by decide) (sh_0 _ _) rfl d_DL_openText_5 ?_
  refine j_callVi hx (c_Tape_held hG σ) mo_Tape_held mv_Tape_held t_382 (by decide) rfl (by decide) (sh_1 _ _) rfl rfl (Nat.le_of_ble_eq_true rfl) d_DL_openText_8 ?_
  refine j_mmin hx t_561 (by decide) (Nat.le_of_ble_eq_true rfl) d_DL_openText_11 ?_
  by_cases hn14 : ((¬ n < 0) ∧ (n ≤ (if (σ 1 1) < lg then (σ 1 1) else lg)))
  · skip
    exact absurd hn14 hbad
  exact j_xcall hx hq (x_DL_needWithin hl hG σ n 0 (if (σ 1 1) < lg then (σ 1 1) else lg) hn14) mo_DL_needWithin mv_DL_needWithin t_562 (by decide) rfl (by decide) (sh_0 _ _) rfl rfl (Nat.le_of_ble_eq_true rfl) d_DL_openText_14

set_option maxRecDepth 20000 in
set_option maxHeartbeats 4000000 in
theorem xI_DL_coast {l : Launch} (hl : l.stackTraces = false) {G : Gz} (hG : zI G) (σ : St) (a0 : Int32) (hbad : ¬ (((¬ a0 < 0) ∧ (a0 ≤ if σ 1 1 < 600 then σ 1 1 else 600)))) : MX l G y_DL_coast prog_1_method_3_code 2 (some .int) 8 [.ref (G.1 0), .int a0] σ xIAE (up σ 0 16 (σ 0 16 + 1)) := by
  refine MX.of hG (by decide) (Nat.le_of_ble_eq_true rfl) (fun X hx hq => ?_)
  show J l G X 2 σ 0 [(0, .ref (G.1 0)), (1, .int a0)] []
  refine j_aload_n hx d_DL_coast_0 rfl 0 rfl ?_
  refine j_iload_n hx d_DL_coast_1 rfl 1 rfl ?_
  refine j_sipush (v := 600) hx d_DL_coast_2 (by decide) ?_
  by_cases hn5 : ((¬ a0 < 0) ∧ (a0 ≤ if σ 1 1 < 600 then σ 1 1 else 600))
  · skip
    exact absurd hn5 hbad
  exact j_xcall hx hq (x_DL_openText hl hG σ a0 600 hn5) mo_DL_openText mv_DL_openText t_557 (by decide) rfl (by decide) (sh_0 _ _) rfl rfl (Nat.le_of_ble_eq_true rfl) d_DL_coast_5

set_option maxRecDepth 20000 in
set_option maxHeartbeats 4000000 in
theorem xI_DL_law {l : Launch} (hl : l.stackTraces = false) {G : Gz} (hG : zI G) (σ : St) (a0 : Int32) (hbad : ¬ (((¬ a0 < 0) ∧ (a0 ≤ if σ 1 1 < 150 then σ 1 1 else 150)))) : MX l G y_DL_law prog_1_method_4_code 2 (some .int) 8 [.ref (G.1 0), .int a0] σ xIAE (up σ 0 16 (σ 0 16 + 1)) := by
  refine MX.of hG (by decide) (Nat.le_of_ble_eq_true rfl) (fun X hx hq => ?_)
  show J l G X 2 σ 0 [(0, .ref (G.1 0)), (1, .int a0)] []
  refine j_aload_n hx d_DL_law_0 rfl 0 rfl ?_
  refine j_iload_n hx d_DL_law_1 rfl 1 rfl ?_
  refine j_sipush (v := 150) hx d_DL_law_2 (by decide) ?_
  by_cases hn5 : ((¬ a0 < 0) ∧ (a0 ≤ if σ 1 1 < 150 then σ 1 1 else 150))
  · skip
    exact absurd hn5 hbad
  exact j_xcall hx hq (x_DL_openText hl hG σ a0 150 hn5) mo_DL_openText mv_DL_openText t_557 (by decide) rfl (by decide) (sh_0 _ _) rfl rfl (Nat.le_of_ble_eq_true rfl) d_DL_law_5

set_option maxRecDepth 20000 in
set_option maxHeartbeats 4000000 in
theorem xI_DL_work {l : Launch} (hl : l.stackTraces = false) {G : Gz} (hG : zI G) (σ : St) (a0 : Int32) (hbad : ¬ (((¬ a0 < 0) ∧ (a0 ≤ if σ 1 1 < 150 then σ 1 1 else 150)))) : MX l G y_DL_work prog_1_method_5_code 2 (some .int) 8 [.ref (G.1 0), .int a0] σ xIAE (up σ 0 16 (σ 0 16 + 1)) := by
  refine MX.of hG (by decide) (Nat.le_of_ble_eq_true rfl) (fun X hx hq => ?_)
  show J l G X 2 σ 0 [(0, .ref (G.1 0)), (1, .int a0)] []
  refine j_aload_n hx d_DL_work_0 rfl 0 rfl ?_
  refine j_iload_n hx d_DL_work_1 rfl 1 rfl ?_
  refine j_sipush (v := 150) hx d_DL_work_2 (by decide) ?_
  by_cases hn5 : ((¬ a0 < 0) ∧ (a0 ≤ if σ 1 1 < 150 then σ 1 1 else 150))
  · skip
    exact absurd hn5 hbad
  exact j_xcall hx hq (x_DL_openText hl hG σ a0 150 hn5) mo_DL_openText mv_DL_openText t_557 (by decide) rfl (by decide) (sh_0 _ _) rfl rfl (Nat.le_of_ble_eq_true rfl) d_DL_work_5

set_option maxRecDepth 20000 in
set_option maxHeartbeats 4000000 in
theorem xI_DL_log {l : Launch} (hl : l.stackTraces = false) {G : Gz} (hG : zI G) (σ : St) (a0 : Int32) (hbad : ¬ (((¬ a0 < 0) ∧ (a0 ≤ if σ 1 1 < 100 then σ 1 1 else 100)))) : MX l G y_DL_log prog_1_method_6_code 2 (some .int) 8 [.ref (G.1 0), .int a0] σ xIAE (up σ 0 16 (σ 0 16 + 1)) := by
  refine MX.of hG (by decide) (Nat.le_of_ble_eq_true rfl) (fun X hx hq => ?_)
  show J l G X 2 σ 0 [(0, .ref (G.1 0)), (1, .int a0)] []
  refine j_aload_n hx d_DL_log_0 rfl 0 rfl ?_
  refine j_iload_n hx d_DL_log_1 rfl 1 rfl ?_
  refine j_bipush (v := 100) hx d_DL_log_2 (by decide) ?_
  by_cases hn4 : ((¬ a0 < 0) ∧ (a0 ≤ if σ 1 1 < 100 then σ 1 1 else 100))
  · skip
    exact absurd hn4 hbad
  exact j_xcall hx hq (x_DL_openText hl hG σ a0 100 hn4) mo_DL_openText mv_DL_openText t_557 (by decide) rfl (by decide) (sh_0 _ _) rfl rfl (Nat.le_of_ble_eq_true rfl) d_DL_log_4

set_option maxRecDepth 20000 in
set_option maxHeartbeats 4000000 in
theorem xI_DL_told {l : Launch} (hl : l.stackTraces = false) {G : Gz} (hG : zI G) (σ : St) (a0 : Int32) (hbad : ¬ (((¬ a0 < 0) ∧ (a0 ≤ 12)))) : MX l G y_DL_told prog_1_method_9_code 2 (some .int) 8 [.ref (G.1 0), .int a0] σ xIAE (up σ 0 16 (σ 0 16 + 1)) := by
  refine MX.of hG (by decide) (Nat.le_of_ble_eq_true rfl) (fun X hx hq => ?_)
  show J l G X 2 σ 0 [(0, .ref (G.1 0)), (1, .int a0)] []
  refine j_aload_n hx d_DL_told_0 rfl 0 rfl ?_
  refine j_iload_n hx d_DL_told_1 rfl 1 rfl ?_
  refine j_iconst (v := 0) hx d_DL_told_2 (by decide) ?_
  refine j_bipush (v := 12) hx d_DL_told_3 (by decide) ?_
  by_cases hn5 : ((¬ a0 < 0) ∧ (a0 ≤ 12))
  · skip
    exact absurd hn5 hbad
  exact j_xcall hx hq (x_DL_needWithin hl hG σ a0 0 12 hn5) mo_DL_needWithin mv_DL_needWithin t_562 (by decide) rfl (by decide) (sh_0 _ _) rfl rfl (Nat.le_of_ble_eq_true rfl) d_DL_told_5

set_option maxRecDepth 20000 in
set_option maxHeartbeats 4000000 in
theorem xN_DL_cell {l : Launch} (hl : l.stackTraces = false) {G : Gz} (hG : zI G) (σ : St) (a0 : Int32) (a1 : Int32) (hbad : ¬ (((¬ a0 < 0) ∧ (a0 < rg (σ 6) 6 0)))) : MX l G y_DL_cell prog_1_method_10_code 3 (some .int) 8 [.ref (G.1 0), .int a0, .int a1] σ xNSE (up σ 0 15 (σ 0 15 + 1)) := by
  refine MX.of hG (by decide) (Nat.le_of_ble_eq_true rfl) (fun X hx hq => ?_)
  show J l G X 3 σ 0 [(0, .ref (G.1 0)), (1, .int a0), (2, .int a1)] []
  refine j_aload_n hx d_DL_cell_0 rfl 0 rfl ?_
  refine j_iconst (v := 0) hx d_DL_cell_1 (by decide) ?_
  refine j_iload_n hx d_DL_cell_2 rfl 1 rfl ?_
  by_cases hn3 : ((¬ a0 < 0) ∧ (a0 < rg (σ 6) 6 0))
  · skip
    exact absurd hn3 hbad
  exact j_xcall hx hq (x_DL_needThere hl hG σ 0 a0 hn3) mo_DL_needThere mv_DL_needThere t_984 (by decide) rfl (by decide) (sh_0 _ _) rfl rfl (Nat.le_of_ble_eq_true rfl) d_DL_cell_3

set_option maxRecDepth 20000 in
set_option maxHeartbeats 4000000 in
theorem xI_DL_cell {l : Launch} (hl : l.stackTraces = false) {G : Gz} (hG : zI G) (σ : St) (a0 : Int32) (a1 : Int32) (ht3 : ((¬ a0 < 0) ∧ (a0 < rg (σ 6) 6 0))) (hbad : ¬ (((¬ a1 < 0) ∧ (a1 ≤ 3)))) : MX l G y_DL_cell prog_1_method_10_code 3 (some .int) 8 [.ref (G.1 0), .int a0, .int a1] σ xIAE (up σ 0 16 (σ 0 16 + 1)) := by
  refine MX.of hG (by decide) (Nat.le_of_ble_eq_true rfl) (fun X hx hq => ?_)
  show J l G X 3 σ 0 [(0, .ref (G.1 0)), (1, .int a0), (2, .int a1)] []
  refine j_aload_n hx d_DL_cell_0 rfl 0 rfl ?_
  refine j_iconst (v := 0) hx d_DL_cell_1 (by decide) ?_
  refine j_iload_n hx d_DL_cell_2 rfl 1 rfl ?_
  refine j_callVv hx (c_DL_needThere hG σ 0 a0 ht3.1 ht3.2) mo_DL_needThere mv_DL_needThere t_984 (by decide) rfl (by decide) (sh_0 _ _) rfl rfl (Nat.le_of_ble_eq_true rfl) d_DL_cell_3 ?_
  refine j_aload_n hx d_DL_cell_6 rfl 0 rfl ?_
  refine j_iload_n hx d_DL_cell_7 rfl 2 rfl ?_
  refine j_iconst (v := 0) hx d_DL_cell_8 (by decide) ?_
  refine j_iconst (v := 3) hx d_DL_cell_9 (by decide) ?_
  by_cases hn10 : ((¬ a1 < 0) ∧ (a1 ≤ 3))
  · skip
    exact absurd hn10 hbad
  exact j_xcall hx hq (x_DL_needWithin hl hG σ a1 0 3 hn10) mo_DL_needWithin mv_DL_needWithin t_562 (by decide) rfl (by decide) (sh_0 _ _) rfl rfl (Nat.le_of_ble_eq_true rfl) d_DL_cell_10

set_option maxRecDepth 20000 in
set_option maxHeartbeats 4000000 in
theorem xN_DL_light {l : Launch} (hl : l.stackTraces = false) {G : Gz} (hG : zI G) (σ : St) (a0 : Int32) (a1 : Int32) (hbad : ¬ (((¬ a0 < 0) ∧ (a0 < rg (σ 6) 6 1)))) : MX l G y_DL_light prog_1_method_11_code 3 (some .int) 8 [.ref (G.1 0), .int a0, .int a1] σ xNSE (up σ 0 15 (σ 0 15 + 1)) := by
  refine MX.of hG (by decide) (Nat.le_of_ble_eq_true rfl) (fun X hx hq => ?_)
  show J l G X 3 σ 0 [(0, .ref (G.1 0)), (1, .int a0), (2, .int a1)] []
  refine j_aload_n hx d_DL_light_0 rfl 0 rfl ?_
  refine j_iconst (v := 1) hx d_DL_light_1 (by decide) ?_
  refine j_iload_n hx d_DL_light_2 rfl 1 rfl ?_
  by_cases hn3 : ((¬ a0 < 0) ∧ (a0 < rg (σ 6) 6 1))
  · skip
    exact absurd hn3 hbad
  exact j_xcall hx hq (x_DL_needThere hl hG σ 1 a0 hn3) mo_DL_needThere mv_DL_needThere t_984 (by decide) rfl (by decide) (sh_0 _ _) rfl rfl (Nat.le_of_ble_eq_true rfl) d_DL_light_3

set_option maxRecDepth 20000 in
set_option maxHeartbeats 4000000 in
theorem xI_DL_light {l : Launch} (hl : l.stackTraces = false) {G : Gz} (hG : zI G) (σ : St) (a0 : Int32) (a1 : Int32) (ht3 : ((¬ a0 < 0) ∧ (a0 < rg (σ 6) 6 1))) (hbad : ¬ (((¬ a1 < 0) ∧ (a1 ≤ 2)))) : MX l G y_DL_light prog_1_method_11_code 3 (some .int) 8 [.ref (G.1 0), .int a0, .int a1] σ xIAE (up σ 0 16 (σ 0 16 + 1)) := by
  refine MX.of hG (by decide) (Nat.le_of_ble_eq_true rfl) (fun X hx hq => ?_)
  show J l G X 3 σ 0 [(0, .ref (G.1 0)), (1, .int a0), (2, .int a1)] []
  refine j_aload_n hx d_DL_light_0 rfl 0 rfl ?_
  refine j_iconst (v := 1) hx d_DL_light_1 (by decide) ?_
  refine j_iload_n hx d_DL_light_2 rfl 1 rfl ?_
  refine j_callVv hx (c_DL_needThere hG σ 1 a0 ht3.1 ht3.2) mo_DL_needThere mv_DL_needThere t_984 (by decide) rfl (by decide) (sh_0 _ _) rfl rfl (Nat.le_of_ble_eq_true rfl) d_DL_light_3 ?_
  refine j_aload_n hx d_DL_light_6 rfl 0 rfl ?_
  refine j_iload_n hx d_DL_light_7 rfl 2 rfl ?_
  refine j_iconst (v := 0) hx d_DL_light_8 (by decide) ?_
  refine j_iconst (v := 2) hx d_DL_light_9 (by decide) ?_
  by_cases hn10 : ((¬ a1 < 0) ∧ (a1 ≤ 2))
  · skip
    exact absurd hn10 hbad
  exact j_xcall hx hq (x_DL_needWithin hl hG σ a1 0 2 hn10) mo_DL_needWithin mv_DL_needWithin t_562 (by decide) rfl (by decide) (sh_0 _ _) rfl rfl (Nat.le_of_ble_eq_true rfl) d_DL_light_10

set_option maxRecDepth 20000 in
set_option maxHeartbeats 4000000 in
theorem xN_DL_donkey {l : Launch} (hl : l.stackTraces = false) {G : Gz} (hG : zI G) (σ : St) (a0 : Int32) (a1 : Int32) (hbad : ¬ (((¬ a0 < 0) ∧ (a0 < rg (σ 6) 6 2)))) : MX l G y_DL_donkey prog_1_method_12_code 3 (some .int) 8 [.ref (G.1 0), .int a0, .int a1] σ xNSE (up σ 0 15 (σ 0 15 + 1)) := by
  refine MX.of hG (by decide) (Nat.le_of_ble_eq_true rfl) (fun X hx hq => ?_)
  show J l G X 3 σ 0 [(0, .ref (G.1 0)), (1, .int a0), (2, .int a1)] []
  refine j_aload_n hx d_DL_donkey_0 rfl 0 rfl ?_
  refine j_iconst (v := 2) hx d_DL_donkey_1 (by decide) ?_
  refine j_iload_n hx d_DL_donkey_2 rfl 1 rfl ?_
  by_cases hn3 : ((¬ a0 < 0) ∧ (a0 < rg (σ 6) 6 2))
  · skip
    exact absurd hn3 hbad
  exact j_xcall hx hq (x_DL_needThere hl hG σ 2 a0 hn3) mo_DL_needThere mv_DL_needThere t_984 (by decide) rfl (by decide) (sh_0 _ _) rfl rfl (Nat.le_of_ble_eq_true rfl) d_DL_donkey_3

set_option maxRecDepth 20000 in
set_option maxHeartbeats 4000000 in
theorem xI_DL_donkey {l : Launch} (hl : l.stackTraces = false) {G : Gz} (hG : zI G) (σ : St) (a0 : Int32) (a1 : Int32) (ht3 : ((¬ a0 < 0) ∧ (a0 < rg (σ 6) 6 2))) (hbad : ¬ (((¬ a1 < 0) ∧ (a1 ≤ 1)))) : MX l G y_DL_donkey prog_1_method_12_code 3 (some .int) 8 [.ref (G.1 0), .int a0, .int a1] σ xIAE (up σ 0 16 (σ 0 16 + 1)) := by
  refine MX.of hG (by decide) (Nat.le_of_ble_eq_true rfl) (fun X hx hq => ?_)
  show J l G X 3 σ 0 [(0, .ref (G.1 0)), (1, .int a0), (2, .int a1)] []
  refine j_aload_n hx d_DL_donkey_0 rfl 0 rfl ?_
  refine j_iconst (v := 2) hx d_DL_donkey_1 (by decide) ?_
  refine j_iload_n hx d_DL_donkey_2 rfl 1 rfl ?_
  refine j_callVv hx (c_DL_needThere hG σ 2 a0 ht3.1 ht3.2) mo_DL_needThere mv_DL_needThere t_984 (by decide) rfl (by decide) (sh_0 _ _) rfl rfl (Nat.le_of_ble_eq_true rfl) d_DL_donkey_3 ?_
  refine j_aload_n hx d_DL_donkey_6 rfl 0 rfl ?_
  refine j_iload_n hx d_DL_donkey_7 rfl 2 rfl ?_
  refine j_iconst (v := 0) hx d_DL_donkey_8 (by decide) ?_
  refine j_iconst (v := 1) hx d_DL_donkey_9 (by decide) ?_
  by_cases hn10 : ((¬ a1 < 0) ∧ (a1 ≤ 1))
  · skip
    exact absurd hn10 hbad
  exact j_xcall hx hq (x_DL_needWithin hl hG σ a1 0 1 hn10) mo_DL_needWithin mv_DL_needWithin t_562 (by decide) rfl (by decide) (sh_0 _ _) rfl rfl (Nat.le_of_ble_eq_true rfl) d_DL_donkey_10

set_option maxRecDepth 20000 in
set_option maxHeartbeats 4000000 in
theorem xN_DL_ship {l : Launch} (hl : l.stackTraces = false) {G : Gz} (hG : zI G) (σ : St) (a0 : Int32) (a1 : Int32) (hbad : ¬ (((¬ a0 < 0) ∧ (a0 < rg (σ 6) 6 3)))) : MX l G y_DL_ship prog_1_method_13_code 3 (some .int) 8 [.ref (G.1 0), .int a0, .int a1] σ xNSE (up σ 0 15 (σ 0 15 + 1)) := by
  refine MX.of hG (by decide) (Nat.le_of_ble_eq_true rfl) (fun X hx hq => ?_)
  show J l G X 3 σ 0 [(0, .ref (G.1 0)), (1, .int a0), (2, .int a1)] []
  refine j_aload_n hx d_DL_ship_0 rfl 0 rfl ?_
  refine j_iconst (v := 3) hx d_DL_ship_1 (by decide) ?_
  refine j_iload_n hx d_DL_ship_2 rfl 1 rfl ?_
  by_cases hn3 : ((¬ a0 < 0) ∧ (a0 < rg (σ 6) 6 3))
  · skip
    exact absurd hn3 hbad
  exact j_xcall hx hq (x_DL_needThere hl hG σ 3 a0 hn3) mo_DL_needThere mv_DL_needThere t_984 (by decide) rfl (by decide) (sh_0 _ _) rfl rfl (Nat.le_of_ble_eq_true rfl) d_DL_ship_3

set_option maxRecDepth 20000 in
set_option maxHeartbeats 4000000 in
theorem xI_DL_ship {l : Launch} (hl : l.stackTraces = false) {G : Gz} (hG : zI G) (σ : St) (a0 : Int32) (a1 : Int32) (ht3 : ((¬ a0 < 0) ∧ (a0 < rg (σ 6) 6 3))) (hbad : ¬ (((¬ a1 < 0) ∧ (a1 ≤ 5)))) : MX l G y_DL_ship prog_1_method_13_code 3 (some .int) 8 [.ref (G.1 0), .int a0, .int a1] σ xIAE (up σ 0 16 (σ 0 16 + 1)) := by
  refine MX.of hG (by decide) (Nat.le_of_ble_eq_true rfl) (fun X hx hq => ?_)
  show J l G X 3 σ 0 [(0, .ref (G.1 0)), (1, .int a0), (2, .int a1)] []
  refine j_aload_n hx d_DL_ship_0 rfl 0 rfl ?_
  refine j_iconst (v := 3) hx d_DL_ship_1 (by decide) ?_
  refine j_iload_n hx d_DL_ship_2 rfl 1 rfl ?_
  refine j_callVv hx (c_DL_needThere hG σ 3 a0 ht3.1 ht3.2) mo_DL_needThere mv_DL_needThere t_984 (by decide) rfl (by decide) (sh_0 _ _) rfl rfl (Nat.le_of_ble_eq_true rfl) d_DL_ship_3 ?_
  refine j_aload_n hx d_DL_ship_6 rfl 0 rfl ?_
  refine j_iload_n hx d_DL_ship_7 rfl 2 rfl ?_
  refine j_iconst (v := 0) hx d_DL_ship_8 (by decide) ?_
  refine j_iconst (v := 5) hx d_DL_ship_9 (by decide) ?_
  by_cases hn10 : ((¬ a1 < 0) ∧ (a1 ≤ 5))
  · skip
    exact absurd hn10 hbad
  exact j_xcall hx hq (x_DL_needWithin hl hG σ a1 0 5 hn10) mo_DL_needWithin mv_DL_needWithin t_562 (by decide) rfl (by decide) (sh_0 _ _) rfl rfl (Nat.le_of_ble_eq_true rfl) d_DL_ship_10

set_option maxRecDepth 20000 in
set_option maxHeartbeats 4000000 in
theorem xN_DL_seen {l : Launch} (hl : l.stackTraces = false) {G : Gz} (hG : zI G) (σ : St) (a0 : Int32) (a1 : Int32) (hbad : ¬ (((¬ a0 < 0) ∧ (a0 < rg (σ 6) 6 0)))) : MX l G y_DL_seen prog_1_method_14_code 3 (some .int) 8 [.ref (G.1 0), .int a0, .int a1] σ xNSE (up σ 0 15 (σ 0 15 + 1)) := by
  refine MX.of hG (by decide) (Nat.le_of_ble_eq_true rfl) (fun X hx hq => ?_)
  show J l G X 3 σ 0 [(0, .ref (G.1 0)), (1, .int a0), (2, .int a1)] []
  refine j_aload_n hx d_DL_seen_0 rfl 0 rfl ?_
  refine j_iconst (v := 0) hx d_DL_seen_1 (by decide) ?_
  refine j_iload_n hx d_DL_seen_2 rfl 1 rfl ?_
  by_cases hn3 : ((¬ a0 < 0) ∧ (a0 < rg (σ 6) 6 0))
  · skip
    exact absurd hn3 hbad
  exact j_xcall hx hq (x_DL_needThere hl hG σ 0 a0 hn3) mo_DL_needThere mv_DL_needThere t_984 (by decide) rfl (by decide) (sh_0 _ _) rfl rfl (Nat.le_of_ble_eq_true rfl) d_DL_seen_3

set_option maxRecDepth 20000 in
set_option maxHeartbeats 4000000 in
theorem xI_DL_seen {l : Launch} (hl : l.stackTraces = false) {G : Gz} (hG : zI G) (σ : St) (a0 : Int32) (a1 : Int32) (ht3 : ((¬ a0 < 0) ∧ (a0 < rg (σ 6) 6 0))) (hbad : ¬ (((¬ a1 < 0) ∧ (a1 ≤ 99)))) : MX l G y_DL_seen prog_1_method_14_code 3 (some .int) 8 [.ref (G.1 0), .int a0, .int a1] σ xIAE (up σ 0 16 (σ 0 16 + 1)) := by
  refine MX.of hG (by decide) (Nat.le_of_ble_eq_true rfl) (fun X hx hq => ?_)
  show J l G X 3 σ 0 [(0, .ref (G.1 0)), (1, .int a0), (2, .int a1)] []
  refine j_aload_n hx d_DL_seen_0 rfl 0 rfl ?_
  refine j_iconst (v := 0) hx d_DL_seen_1 (by decide) ?_
  refine j_iload_n hx d_DL_seen_2 rfl 1 rfl ?_
  refine j_callVv hx (c_DL_needThere hG σ 0 a0 ht3.1 ht3.2) mo_DL_needThere mv_DL_needThere t_984 (by decide) rfl (by decide) (sh_0 _ _) rfl rfl (Nat.le_of_ble_eq_true rfl) d_DL_seen_3 ?_
  refine j_aload_n hx d_DL_seen_6 rfl 0 rfl ?_
  refine j_iload_n hx d_DL_seen_7 rfl 2 rfl ?_
  refine j_iconst (v := 0) hx d_DL_seen_8 (by decide) ?_
  refine j_bipush (v := 99) hx d_DL_seen_9 (by decide) ?_
  by_cases hn11 : ((¬ a1 < 0) ∧ (a1 ≤ 99))
  · skip
    exact absurd hn11 hbad
  exact j_xcall hx hq (x_DL_needWithin hl hG σ a1 0 99 hn11) mo_DL_needWithin mv_DL_needWithin t_562 (by decide) rfl (by decide) (sh_0 _ _) rfl rfl (Nat.le_of_ble_eq_true rfl) d_DL_seen_11

set_option maxRecDepth 20000 in
set_option maxHeartbeats 4000000 in
theorem xN_DL_would {l : Launch} (hl : l.stackTraces = false) {G : Gz} (hG : zI G) (σ : St) (a0 : Int32) (a1 : Int32) (a2 : Int32) (a3 : Int32) (a4 : Int32) (a5 : Int32) (a6 : Int32) (hbad : ¬ (((¬ a0 < 0) ∧ (a0 < rg (σ 6) 6 3)))) : MX l G y_DL_would prog_1_method_15_code 8 (some .boolean) 8 [.ref (G.1 0), .int a0, .int a1, .int a2, .int a3, .int a4, .int a5, .int a6] σ xNSE (up σ 0 15 (σ 0 15 + 1)) := by
  refine MX.of hG (by decide) (Nat.le_of_ble_eq_true rfl) (fun X hx hq => ?_)
  show J l G X 8 σ 0 [(0, .ref (G.1 0)), (1, .int a0), (2, .int a1), (3, .int a2), (4, .int a3), (5, .int a4), (6, .int a5), (7, .int a6)] []
  refine j_aload_n hx d_DL_would_0 rfl 0 rfl ?_
  refine j_iconst (v := 3) hx d_DL_would_1 (by decide) ?_
  refine j_iload_n hx d_DL_would_2 rfl 1 rfl ?_
  by_cases hn3 : ((¬ a0 < 0) ∧ (a0 < rg (σ 6) 6 3))
  · skip
    exact absurd hn3 hbad
  exact j_xcall hx hq (x_DL_needThere hl hG σ 3 a0 hn3) mo_DL_needThere mv_DL_needThere t_984 (by decide) rfl (by decide) (sh_0 _ _) rfl rfl (Nat.le_of_ble_eq_true rfl) d_DL_would_3

set_option maxRecDepth 20000 in
set_option maxHeartbeats 4000000 in
theorem xI_DL_would {l : Launch} (hl : l.stackTraces = false) {G : Gz} (hG : zI G) (σ : St) (a0 : Int32) (a1 : Int32) (a2 : Int32) (a3 : Int32) (a4 : Int32) (a5 : Int32) (a6 : Int32) (ht3 : ((¬ a0 < 0) ∧ (a0 < rg (σ 6) 6 3))) (hbad : ¬ (((¬ a1 < 0) ∧ (a1 ≤ 20)) ∧ ((¬ a2 < 0) ∧ (a2 ≤ 20)) ∧ ((¬ a3 < 0) ∧ (a3 ≤ 11)) ∧ ((¬ a4 < 0) ∧ (a4 ≤ 11)) ∧ ((¬ a5 < 0) ∧ (a5 ≤ 500)) ∧ ((¬ a6 < 0) ∧ (a6 ≤ 1)))) : MX l G y_DL_would prog_1_method_15_code 8 (some .boolean) 8 [.ref (G.1 0), .int a0, .int a1, .int a2, .int a3, .int a4, .int a5, .int a6] σ xIAE (up σ 0 16 (σ 0 16 + 1)) := by
  refine MX.of hG (by decide) (Nat.le_of_ble_eq_true rfl) (fun X hx hq => ?_)
  show J l G X 8 σ 0 [(0, .ref (G.1 0)), (1, .int a0), (2, .int a1), (3, .int a2), (4, .int a3), (5, .int a4), (6, .int a5), (7, .int a6)] []
  refine j_aload_n hx d_DL_would_0 rfl 0 rfl ?_
  refine j_iconst (v := 3) hx d_DL_would_1 (by decide) ?_
  refine j_iload_n hx d_DL_would_2 rfl 1 rfl ?_
  refine j_callVv hx (c_DL_needThere hG σ 3 a0 ht3.1 ht3.2) mo_DL_needThere mv_DL_needThere t_984 (by decide) rfl (by decide) (sh_0 _ _) rfl rfl (Nat.le_of_ble_eq_true rfl) d_DL_would_3 ?_
  refine j_aload_n hx d_DL_would_6 rfl 0 rfl ?_
  refine j_iload_n hx d_DL_would_7 rfl 2 rfl ?_
  refine j_iconst (v := 0) hx d_DL_would_8 (by decide) ?_
  refine j_bipush (v := 20) hx d_DL_would_9 (by decide) ?_
  by_cases hn11 : ((¬ a1 < 0) ∧ (a1 ≤ 20))
  · skip
    refine j_callVv hx (c_DL_needWithin hG σ a1 0 20 hn11.1 hn11.2) mo_DL_needWithin mv_DL_needWithin t_562 (by decide) rfl (by decide) (sh_0 _ _) rfl rfl (Nat.le_of_ble_eq_true rfl) d_DL_would_11 ?_
    refine j_aload_n hx d_DL_would_14 rfl 0 rfl ?_
    refine j_iload_n hx d_DL_would_15 rfl 3 rfl ?_
    refine j_iconst (v := 0) hx d_DL_would_16 (by decide) ?_
    refine j_bipush (v := 20) hx d_DL_would_17 (by decide) ?_
    by_cases hn19 : ((¬ a2 < 0) ∧ (a2 ≤ 20))
    · skip
      refine j_callVv hx (c_DL_needWithin hG σ a2 0 20 hn19.1 hn19.2) mo_DL_needWithin mv_DL_needWithin t_562 (by decide) rfl (by decide) (sh_0 _ _) rfl rfl (Nat.le_of_ble_eq_true rfl) d_DL_would_19 ?_
      refine j_aload_n hx d_DL_would_22 rfl 0 rfl ?_
      refine j_iload hx d_DL_would_23 4 rfl ?_
      refine j_iconst (v := 0) hx d_DL_would_25 (by decide) ?_
      refine j_bipush (v := 11) hx d_DL_would_26 (by decide) ?_
      by_cases hn28 : ((¬ a3 < 0) ∧ (a3 ≤ 11))
      · skip
        refine j_callVv hx (c_DL_needWithin hG σ a3 0 11 hn28.1 hn28.2) mo_DL_needWithin mv_DL_needWithin t_562 (by decide) rfl (by decide) (sh_0 _ _) rfl rfl (Nat.le_of_ble_eq_true rfl) d_DL_would_28 ?_
        refine j_aload_n hx d_DL_would_31 rfl 0 rfl ?_
        refine j_iload hx d_DL_would_32 5 rfl ?_
        refine j_iconst (v := 0) hx d_DL_would_34 (by decide) ?_
        refine j_bipush (v := 11) hx d_DL_would_35 (by decide) ?_
        by_cases hn37 : ((¬ a4 < 0) ∧ (a4 ≤ 11))
        · skip
          refine j_callVv hx (c_DL_needWithin hG σ a4 0 11 hn37.1 hn37.2) mo_DL_needWithin mv_DL_needWithin t_562 (by decide) rfl (by decide) (sh_0 _ _) rfl rfl (Nat.le_of_ble_eq_true rfl) d_DL_would_37 ?_
          refine j_aload_n hx d_DL_would_40 rfl 0 rfl ?_
          refine j_iload hx d_DL_would_41 6 rfl ?_
          refine j_iconst (v := 0) hx d_DL_would_43 (by decide) ?_
          refine j_sipush (v := 500) hx d_DL_would_44 (by decide) ?_
          by_cases hn47 : ((¬ a5 < 0) ∧ (a5 ≤ 500))
          · skip
            refine j_callVv hx (c_DL_needWithin hG σ a5 0 500 hn47.1 hn47.2) mo_DL_needWithin mv_DL_needWithin t_562 (by decide) rfl (by decide) (sh_0 _ _) rfl rfl (Nat.le_of_ble_eq_true rfl) d_DL_would_47 ?_
            refine j_aload_n hx d_DL_would_50 rfl 0 rfl ?_
            refine j_iload hx d_DL_would_51 7 rfl ?_
            refine j_iconst (v := 0) hx d_DL_would_53 (by decide) ?_
            refine j_iconst (v := 1) hx d_DL_would_54 (by decide) ?_
            by_cases hn55 : ((¬ a6 < 0) ∧ (a6 ≤ 1))
            · skip
              exact absurd ⟨hn11, hn19, hn28, hn37, hn47, hn55⟩ hbad
            exact j_xcall hx hq (x_DL_needWithin hl hG σ a6 0 1 hn55) mo_DL_needWithin mv_DL_needWithin t_562 (by decide) rfl (by decide) (sh_0 _ _) rfl rfl (Nat.le_of_ble_eq_true rfl) d_DL_would_55
          exact j_xcall hx hq (x_DL_needWithin hl hG σ a5 0 500 hn47) mo_DL_needWithin mv_DL_needWithin t_562 (by decide) rfl (by decide) (sh_0 _ _) rfl rfl (Nat.le_of_ble_eq_true rfl) d_DL_would_47
        exact j_xcall hx hq (x_DL_needWithin hl hG σ a4 0 11 hn37) mo_DL_needWithin mv_DL_needWithin t_562 (by decide) rfl (by decide) (sh_0 _ _) rfl rfl (Nat.le_of_ble_eq_true rfl) d_DL_would_37
      exact j_xcall hx hq (x_DL_needWithin hl hG σ a3 0 11 hn28) mo_DL_needWithin mv_DL_needWithin t_562 (by decide) rfl (by decide) (sh_0 _ _) rfl rfl (Nat.le_of_ble_eq_true rfl) d_DL_would_28
    exact j_xcall hx hq (x_DL_needWithin hl hG σ a2 0 20 hn19) mo_DL_needWithin mv_DL_needWithin t_562 (by decide) rfl (by decide) (sh_0 _ _) rfl rfl (Nat.le_of_ble_eq_true rfl) d_DL_would_19
  exact j_xcall hx hq (x_DL_needWithin hl hG σ a1 0 20 hn11) mo_DL_needWithin mv_DL_needWithin t_562 (by decide) rfl (by decide) (sh_0 _ _) rfl rfl (Nat.le_of_ble_eq_true rfl) d_DL_would_11

set_option maxRecDepth 20000 in
set_option maxHeartbeats 4000000 in
theorem xN_DL_tried {l : Launch} (hl : l.stackTraces = false) {G : Gz} (hG : zI G) (σ : St) (a0 : Int32) (a1 : Int32) (hbad : ¬ (((¬ a0 < 0) ∧ (a0 < rg (σ 6) 6 3)))) : MX l G y_DL_tried prog_1_method_16_code 4 (some .int) 8 [.ref (G.1 0), .int a0, .int a1] σ xNSE (up σ 0 15 (σ 0 15 + 1)) := by
  refine MX.of hG (by decide) (Nat.le_of_ble_eq_true rfl) (fun X hx hq => ?_)
  show J l G X 4 σ 0 [(0, .ref (G.1 0)), (1, .int a0), (2, .int a1)] []
  refine j_aload_n hx d_DL_tried_0 rfl 0 rfl ?_
  refine j_iconst (v := 3) hx d_DL_tried_1 (by decide) ?_
  refine j_iload_n hx d_DL_tried_2 rfl 1 rfl ?_
  by_cases hn3 : ((¬ a0 < 0) ∧ (a0 < rg (σ 6) 6 3))
  · skip
    exact absurd hn3 hbad
  exact j_xcall hx hq (x_DL_needThere hl hG σ 3 a0 hn3) mo_DL_needThere mv_DL_needThere t_984 (by decide) rfl (by decide) (sh_0 _ _) rfl rfl (Nat.le_of_ble_eq_true rfl) d_DL_tried_3

set_option maxRecDepth 20000 in
set_option maxHeartbeats 4000000 in
theorem xI_DL_tried {l : Launch} (hl : l.stackTraces = false) {G : Gz} (hG : zI G) (σ : St) (a0 : Int32) (a1 : Int32) (ht3 : ((¬ a0 < 0) ∧ (a0 < rg (σ 6) 6 3))) (hbad : ¬ (((¬ a1 < 0) ∧ (a1 ≤ 4)))) : MX l G y_DL_tried prog_1_method_16_code 4 (some .int) 8 [.ref (G.1 0), .int a0, .int a1] σ xIAE (up σ 0 16 (σ 0 16 + 1)) := by
  refine MX.of hG (by decide) (Nat.le_of_ble_eq_true rfl) (fun X hx hq => ?_)
  show J l G X 4 σ 0 [(0, .ref (G.1 0)), (1, .int a0), (2, .int a1)] []
  refine j_aload_n hx d_DL_tried_0 rfl 0 rfl ?_
  refine j_iconst (v := 3) hx d_DL_tried_1 (by decide) ?_
  refine j_iload_n hx d_DL_tried_2 rfl 1 rfl ?_
  refine j_callVv hx (c_DL_needThere hG σ 3 a0 ht3.1 ht3.2) mo_DL_needThere mv_DL_needThere t_984 (by decide) rfl (by decide) (sh_0 _ _) rfl rfl (Nat.le_of_ble_eq_true rfl) d_DL_tried_3 ?_
  refine j_aload_n hx d_DL_tried_6 rfl 0 rfl ?_
  refine j_iload_n hx d_DL_tried_7 rfl 2 rfl ?_
  refine j_iconst (v := 0) hx d_DL_tried_8 (by decide) ?_
  refine j_iconst (v := 4) hx d_DL_tried_9 (by decide) ?_
  by_cases hn10 : ((¬ a1 < 0) ∧ (a1 ≤ 4))
  · skip
    exact absurd hn10 hbad
  exact j_xcall hx hq (x_DL_needWithin hl hG σ a1 0 4 hn10) mo_DL_needWithin mv_DL_needWithin t_562 (by decide) rfl (by decide) (sh_0 _ _) rfl rfl (Nat.le_of_ble_eq_true rfl) d_DL_tried_10

set_option maxRecDepth 20000 in
set_option maxHeartbeats 4000000 in
theorem xI_DL_put {l : Launch} (hl : l.stackTraces = false) {G : Gz} (hG : zI G) (σ : St) (a0 : Int32) (a1 : Int32) (hbad : ¬ (((¬ a0 < 0) ∧ (a0 ≤ 1 <<< (cM σ 3 &&& 31) - 1)) ∧ ((¬ a1 < 0) ∧ (a1 ≤ 1)))) : MX l G y_DL_put prog_1_method_18_code 3 (some .int) 8 [.ref (G.1 0), .int a0, .int a1] σ xIAE (up σ 0 16 (σ 0 16 + 1)) := by
  refine MX.of hG (by decide) (Nat.le_of_ble_eq_true rfl) (fun X hx hq => ?_)
  show J l G X 3 σ 0 [(0, .ref (G.1 0)), (1, .int a0), (2, .int a1)] []
  refine j_aload_n hx d_DL_put_0 rfl 0 rfl ?_
  refine j_iload_n hx d_DL_put_1 rfl 1 rfl ?_
  by_cases hn2 : ((¬ a0 < 0) ∧ (a0 ≤ 1 <<< (cM σ 3 &&& 31) - 1))
  · skip
    refine j_callVv hx (c_DL_needShips hG σ a0 hn2.1 hn2.2) mo_DL_needShips mv_DL_needShips t_1090 (by decide) rfl (by decide) (sh_0 _ _) rfl rfl (Nat.le_of_ble_eq_true rfl) d_DL_put_2 ?_
    refine j_aload_n hx d_DL_put_5 rfl 0 rfl ?_
    refine j_iload_n hx d_DL_put_6 rfl 2 rfl ?_
    refine j_iconst (v := 0) hx d_DL_put_7 (by decide) ?_
    refine j_iconst (v := 1) hx d_DL_put_8 (by decide) ?_
    by_cases hn9 : ((¬ a1 < 0) ∧ (a1 ≤ 1))
    · skip
      exact absurd ⟨hn2, hn9⟩ hbad
    exact j_xcall hx hq (x_DL_needWithin hl hG σ a1 0 1 hn9) mo_DL_needWithin mv_DL_needWithin t_562 (by decide) rfl (by decide) (sh_0 _ _) rfl rfl (Nat.le_of_ble_eq_true rfl) d_DL_put_9
  exact j_xcall hx hq (x_DL_needShips hl hG σ a0 hn2) mo_DL_needShips mv_DL_needShips t_1090 (by decide) rfl (by decide) (sh_0 _ _) rfl rfl (Nat.le_of_ble_eq_true rfl) d_DL_put_2

set_option maxRecDepth 20000 in
set_option maxHeartbeats 4000000 in
theorem xI_DL_save {l : Launch} (hl : l.stackTraces = false) {G : Gz} (hG : zI G) (σ : St) (a0 : Int32) (hbad : ¬ (((¬ a0 < 0) ∧ (a0 ≤ 2)))) : MX l G y_DL_save prog_1_method_19_code 2 (some .int) 8 [.ref (G.1 0), .int a0] σ xIAE (up σ 0 16 (σ 0 16 + 1)) := by
  refine MX.of hG (by decide) (Nat.le_of_ble_eq_true rfl) (fun X hx hq => ?_)
  show J l G X 2 σ 0 [(0, .ref (G.1 0)), (1, .int a0)] []
  refine j_aload_n hx d_DL_save_0 rfl 0 rfl ?_
  refine j_iload_n hx d_DL_save_1 rfl 1 rfl ?_
  refine j_iconst (v := 0) hx d_DL_save_2 (by decide) ?_
  refine j_iconst (v := 2) hx d_DL_save_3 (by decide) ?_
  by_cases hn4 : ((¬ a0 < 0) ∧ (a0 ≤ 2))
  · skip
    exact absurd hn4 hbad
  exact j_xcall hx hq (x_DL_needWithin hl hG σ a0 0 2 hn4) mo_DL_needWithin mv_DL_needWithin t_562 (by decide) rfl (by decide) (sh_0 _ _) rfl rfl (Nat.le_of_ble_eq_true rfl) d_DL_save_4

set_option maxRecDepth 20000 in
set_option maxHeartbeats 4000000 in
theorem xI_DL_fits {l : Launch} (hl : l.stackTraces = false) {G : Gz} (hG : zI G) (σ : St) (a0 : Int32) (hbad : ¬ (((¬ a0 < 0) ∧ (a0 ≤ 1)))) : MX l G y_DL_fits prog_1_method_20_code 2 (some .int) 8 [.ref (G.1 0), .int a0] σ xIAE (up σ 0 16 (σ 0 16 + 1)) := by
  refine MX.of hG (by decide) (Nat.le_of_ble_eq_true rfl) (fun X hx hq => ?_)
  show J l G X 2 σ 0 [(0, .ref (G.1 0)), (1, .int a0)] []
  refine j_aload_n hx d_DL_fits_0 rfl 0 rfl ?_
  refine j_iload_n hx d_DL_fits_1 rfl 1 rfl ?_
  refine j_iconst (v := 0) hx d_DL_fits_2 (by decide) ?_
  refine j_iconst (v := 1) hx d_DL_fits_3 (by decide) ?_
  by_cases hn4 : ((¬ a0 < 0) ∧ (a0 ≤ 1))
  · skip
    exact absurd hn4 hbad
  exact j_xcall hx hq (x_DL_needWithin hl hG σ a0 0 1 hn4) mo_DL_needWithin mv_DL_needWithin t_562 (by decide) rfl (by decide) (sh_0 _ _) rfl rfl (Nat.le_of_ble_eq_true rfl) d_DL_fits_4

set_option maxRecDepth 20000 in
set_option maxHeartbeats 4000000 in
theorem xI_DL_look {l : Launch} (hl : l.stackTraces = false) {G : Gz} (hG : zI G) (σ : St) (a0 : Int32) (hbad : ¬ (((¬ a0 < 0) ∧ (a0 ≤ 1)))) : MX l G y_DL_look prog_1_method_21_code 3 (some .int) 8 [.ref (G.1 0), .int a0] σ xIAE (up σ 0 16 (σ 0 16 + 1)) := by
  refine MX.of hG (by decide) (Nat.le_of_ble_eq_true rfl) (fun X hx hq => ?_)
  show J l G X 3 σ 0 [(0, .ref (G.1 0)), (1, .int a0)] []
  refine j_aload_n hx d_DL_look_0 rfl 0 rfl ?_
  refine j_iload_n hx d_DL_look_1 rfl 1 rfl ?_
  refine j_iconst (v := 0) hx d_DL_look_2 (by decide) ?_
  refine j_iconst (v := 1) hx d_DL_look_3 (by decide) ?_
  by_cases hn4 : ((¬ a0 < 0) ∧ (a0 ≤ 1))
  · skip
    exact absurd hn4 hbad
  exact j_xcall hx hq (x_DL_needWithin hl hG σ a0 0 1 hn4) mo_DL_needWithin mv_DL_needWithin t_562 (by decide) rfl (by decide) (sh_0 _ _) rfl rfl (Nat.le_of_ble_eq_true rfl) d_DL_look_4

set_option maxRecDepth 20000 in
set_option maxHeartbeats 4000000 in
theorem xI_DL_code {l : Launch} (hl : l.stackTraces = false) {G : Gz} (hG : zI G) (σ : St) (a0 : Int32) (a1 : Int32) (hbad : ¬ (((¬ a0 < 1) ∧ (a0 ≤ 8)) ∧ ((¬ a1 < 0) ∧ (a1 ≤ 1)))) : MX l G y_DL_code prog_1_method_22_code 3 (some .int) 8 [.ref (G.1 0), .int a0, .int a1] σ xIAE (up σ 0 16 (σ 0 16 + 1)) := by
  refine MX.of hG (by decide) (Nat.le_of_ble_eq_true rfl) (fun X hx hq => ?_)
  show J l G X 3 σ 0 [(0, .ref (G.1 0)), (1, .int a0), (2, .int a1)] []
  refine j_aload_n hx d_DL_code_0 rfl 0 rfl ?_
  refine j_iload_n hx d_DL_code_1 rfl 1 rfl ?_
  refine j_iconst (v := 1) hx d_DL_code_2 (by decide) ?_
  refine j_bipush (v := 8) hx d_DL_code_3 (by decide) ?_
  by_cases hn5 : ((¬ a0 < 1) ∧ (a0 ≤ 8))
  · skip
    refine j_callVv hx (c_DL_needWithin hG σ a0 1 8 hn5.1 hn5.2) mo_DL_needWithin mv_DL_needWithin t_562 (by decide) rfl (by decide) (sh_0 _ _) rfl rfl (Nat.le_of_ble_eq_true rfl) d_DL_code_5 ?_
    refine j_aload_n hx d_DL_code_8 rfl 0 rfl ?_
    refine j_iload_n hx d_DL_code_9 rfl 2 rfl ?_
    refine j_iconst (v := 0) hx d_DL_code_10 (by decide) ?_
    refine j_iconst (v := 1) hx d_DL_code_11 (by decide) ?_
    by_cases hn12 : ((¬ a1 < 0) ∧ (a1 ≤ 1))
    · skip
      exact absurd ⟨hn5, hn12⟩ hbad
    exact j_xcall hx hq (x_DL_needWithin hl hG σ a1 0 1 hn12) mo_DL_needWithin mv_DL_needWithin t_562 (by decide) rfl (by decide) (sh_0 _ _) rfl rfl (Nat.le_of_ble_eq_true rfl) d_DL_code_12
  exact j_xcall hx hq (x_DL_needWithin hl hG σ a0 1 8 hn5) mo_DL_needWithin mv_DL_needWithin t_562 (by decide) rfl (by decide) (sh_0 _ _) rfl rfl (Nat.le_of_ble_eq_true rfl) d_DL_code_5

set_option maxRecDepth 20000 in
set_option maxHeartbeats 4000000 in
theorem xI_DL_wink {l : Launch} (hl : l.stackTraces = false) {G : Gz} (hG : zI G) (σ : St) (a0 : Int32) (a1 : Int32) (a2 : Int32) (a3 : Int32) (a4 : Int32) (a5 : Int32) (hbad : ¬ (((¬ a0 < 0) ∧ (a0 ≤ 16)) ∧ ((¬ a1 < 0) ∧ (a1 ≤ 16)) ∧ ((¬ a2 < 0) ∧ (a2 ≤ 16)) ∧ ((¬ a4 < 0) ∧ (a4 ≤ 6)) ∧ ((¬ a3 < 0) ∧ (a3 ≤ a4)) ∧ ((¬ a5 < 0) ∧ (a5 ≤ 1)))) : MX l G y_DL_wink prog_1_method_24_code 13 (some .long) 8 [.ref (G.1 0), .int a0, .int a1, .int a2, .int a3, .int a4, .int a5] σ xIAE (up σ 0 16 (σ 0 16 + 1)) := by
  refine MX.of hG (by decide) (Nat.le_of_ble_eq_true rfl) (fun X hx hq => ?_)
  show J l G X 13 σ 0 [(0, .ref (G.1 0)), (1, .int a0), (2, .int a1), (3, .int a2), (4, .int a3), (5, .int a4), (6, .int a5)] []
  refine j_aload_n hx d_DL_wink_0 rfl 0 rfl ?_
  refine j_iload_n hx d_DL_wink_1 rfl 1 rfl ?_
  refine j_iconst (v := 0) hx d_DL_wink_2 (by decide) ?_
  refine j_bipush (v := 16) hx d_DL_wink_3 (by decide) ?_
  by_cases hn5 : ((¬ a0 < 0) ∧ (a0 ≤ 16))
  · skip
    refine j_callVv hx (c_DL_needWithin hG σ a0 0 16 hn5.1 hn5.2) mo_DL_needWithin mv_DL_needWithin t_562 (by decide) rfl (by decide) (sh_0 _ _) rfl rfl (Nat.le_of_ble_eq_true rfl) d_DL_wink_5 ?_
    refine j_aload_n hx d_DL_wink_8 rfl 0 rfl ?_
    refine j_iload_n hx d_DL_wink_9 rfl 2 rfl ?_
    refine j_iconst (v := 0) hx d_DL_wink_10 (by decide) ?_
    refine j_bipush (v := 16) hx d_DL_wink_11 (by decide) ?_
    by_cases hn13 : ((¬ a1 < 0) ∧ (a1 ≤ 16))
    · skip
      refine j_callVv hx (c_DL_needWithin hG σ a1 0 16 hn13.1 hn13.2) mo_DL_needWithin mv_DL_needWithin t_562 (by decide) rfl (by decide) (sh_0 _ _) rfl rfl (Nat.le_of_ble_eq_true rfl) d_DL_wink_13 ?_
      refine j_aload_n hx d_DL_wink_16 rfl 0 rfl ?_
      refine j_iload_n hx d_DL_wink_17 rfl 3 rfl ?_
      refine j_iconst (v := 0) hx d_DL_wink_18 (by decide) ?_
      refine j_bipush (v := 16) hx d_DL_wink_19 (by decide) ?_
      by_cases hn21 : ((¬ a2 < 0) ∧ (a2 ≤ 16))
      · skip
        refine j_callVv hx (c_DL_needWithin hG σ a2 0 16 hn21.1 hn21.2) mo_DL_needWithin mv_DL_needWithin t_562 (by decide) rfl (by decide) (sh_0 _ _) rfl rfl (Nat.le_of_ble_eq_true rfl) d_DL_wink_21 ?_
        refine j_aload_n hx d_DL_wink_24 rfl 0 rfl ?_
        refine j_iload hx d_DL_wink_25 5 rfl ?_
        refine j_iconst (v := 0) hx d_DL_wink_27 (by decide) ?_
        refine j_bipush (v := 6) hx d_DL_wink_28 (by decide) ?_
        by_cases hn30 : ((¬ a4 < 0) ∧ (a4 ≤ 6))
        · skip
          refine j_callVv hx (c_DL_needWithin hG σ a4 0 6 hn30.1 hn30.2) mo_DL_needWithin mv_DL_needWithin t_562 (by decide) rfl (by decide) (sh_0 _ _) rfl rfl (Nat.le_of_ble_eq_true rfl) d_DL_wink_30 ?_
          refine j_aload_n hx d_DL_wink_33 rfl 0 rfl ?_
          refine j_iload hx d_DL_wink_34 4 rfl ?_
          refine j_iconst (v := 0) hx d_DL_wink_36 (by decide) ?_
          refine j_iload hx d_DL_wink_37 5 rfl ?_
          by_cases hn39 : ((¬ a3 < 0) ∧ (a3 ≤ a4))
          · skip
            refine j_callVv hx (c_DL_needWithin hG σ a3 0 a4 hn39.1 hn39.2) mo_DL_needWithin mv_DL_needWithin t_562 (by decide) rfl (by decide) (sh_0 _ _) rfl rfl (Nat.le_of_ble_eq_true rfl) d_DL_wink_39 ?_
            refine j_aload_n hx d_DL_wink_42 rfl 0 rfl ?_
            refine j_iload hx d_DL_wink_43 6 rfl ?_
            refine j_iconst (v := 0) hx d_DL_wink_45 (by decide) ?_
            refine j_iconst (v := 1) hx d_DL_wink_46 (by decide) ?_
            by_cases hn47 : ((¬ a5 < 0) ∧ (a5 ≤ 1))
            · skip
              exact absurd ⟨hn5, hn13, hn21, hn30, hn39, hn47⟩ hbad
            exact j_xcall hx hq (x_DL_needWithin hl hG σ a5 0 1 hn47) mo_DL_needWithin mv_DL_needWithin t_562 (by decide) rfl (by decide) (sh_0 _ _) rfl rfl (Nat.le_of_ble_eq_true rfl) d_DL_wink_47
          exact j_xcall hx hq (x_DL_needWithin hl hG σ a3 0 a4 hn39) mo_DL_needWithin mv_DL_needWithin t_562 (by decide) rfl (by decide) (sh_0 _ _) rfl rfl (Nat.le_of_ble_eq_true rfl) d_DL_wink_39
        exact j_xcall hx hq (x_DL_needWithin hl hG σ a4 0 6 hn30) mo_DL_needWithin mv_DL_needWithin t_562 (by decide) rfl (by decide) (sh_0 _ _) rfl rfl (Nat.le_of_ble_eq_true rfl) d_DL_wink_30
      exact j_xcall hx hq (x_DL_needWithin hl hG σ a2 0 16 hn21) mo_DL_needWithin mv_DL_needWithin t_562 (by decide) rfl (by decide) (sh_0 _ _) rfl rfl (Nat.le_of_ble_eq_true rfl) d_DL_wink_21
    exact j_xcall hx hq (x_DL_needWithin hl hG σ a1 0 16 hn13) mo_DL_needWithin mv_DL_needWithin t_562 (by decide) rfl (by decide) (sh_0 _ _) rfl rfl (Nat.le_of_ble_eq_true rfl) d_DL_wink_13
  exact j_xcall hx hq (x_DL_needWithin hl hG σ a0 0 16 hn5) mo_DL_needWithin mv_DL_needWithin t_562 (by decide) rfl (by decide) (sh_0 _ _) rfl rfl (Nat.le_of_ble_eq_true rfl) d_DL_wink_5

set_option maxRecDepth 20000 in
set_option maxHeartbeats 4000000 in
theorem xI_DL_carriers {l : Launch} (hl : l.stackTraces = false) {G : Gz} (hG : zI G) (σ : St) (a0 : Int32) (hbad : ¬ (((¬ a0 < 0) ∧ (a0 ≤ 2)))) : MX l G y_DL_carriers prog_1_method_25_code 3 (some .int) 8 [.ref (G.1 0), .int a0] σ xIAE (up σ 0 16 (σ 0 16 + 1)) := by
  refine MX.of hG (by decide) (Nat.le_of_ble_eq_true rfl) (fun X hx hq => ?_)
  show J l G X 3 σ 0 [(0, .ref (G.1 0)), (1, .int a0)] []
  refine j_aload_n hx d_DL_carriers_0 rfl 0 rfl ?_
  refine j_iload_n hx d_DL_carriers_1 rfl 1 rfl ?_
  refine j_iconst (v := 0) hx d_DL_carriers_2 (by decide) ?_
  refine j_iconst (v := 2) hx d_DL_carriers_3 (by decide) ?_
  by_cases hn4 : ((¬ a0 < 0) ∧ (a0 ≤ 2))
  · skip
    exact absurd hn4 hbad
  exact j_xcall hx hq (x_DL_needWithin hl hG σ a0 0 2 hn4) mo_DL_needWithin mv_DL_needWithin t_562 (by decide) rfl (by decide) (sh_0 _ _) rfl rfl (Nat.le_of_ble_eq_true rfl) d_DL_carriers_4

set_option maxRecDepth 20000 in
set_option maxHeartbeats 4000000 in
theorem xN_DL_share {l : Launch} (hl : l.stackTraces = false) {G : Gz} (hG : zI G) (σ : St) (a0 : Int32) (a1 : Int32) (hbad : ¬ (((¬ a0 < 0) ∧ (a0 < rg (σ 6) 6 4)))) : MX l G y_DL_share prog_1_method_26_code 3 (some .int) 8 [.ref (G.1 0), .int a0, .int a1] σ xNSE (up σ 0 15 (σ 0 15 + 1)) := by
  refine MX.of hG (by decide) (Nat.le_of_ble_eq_true rfl) (fun X hx hq => ?_)
  show J l G X 3 σ 0 [(0, .ref (G.1 0)), (1, .int a0), (2, .int a1)] []
  refine j_aload_n hx d_DL_share_0 rfl 0 rfl ?_
  refine j_iconst (v := 4) hx d_DL_share_1 (by decide) ?_
  refine j_iload_n hx d_DL_share_2 rfl 1 rfl ?_
  by_cases hn3 : ((¬ a0 < 0) ∧ (a0 < rg (σ 6) 6 4))
  · skip
    exact absurd hn3 hbad
  exact j_xcall hx hq (x_DL_needThere hl hG σ 4 a0 hn3) mo_DL_needThere mv_DL_needThere t_984 (by decide) rfl (by decide) (sh_0 _ _) rfl rfl (Nat.le_of_ble_eq_true rfl) d_DL_share_3

set_option maxRecDepth 20000 in
set_option maxHeartbeats 4000000 in
theorem xI_DL_share {l : Launch} (hl : l.stackTraces = false) {G : Gz} (hG : zI G) (σ : St) (a0 : Int32) (a1 : Int32) (ht3 : ((¬ a0 < 0) ∧ (a0 < rg (σ 6) 6 4))) (hbad : ¬ (((¬ a1 < 0) ∧ (a1 ≤ 999)))) : MX l G y_DL_share prog_1_method_26_code 3 (some .int) 8 [.ref (G.1 0), .int a0, .int a1] σ xIAE (up σ 0 16 (σ 0 16 + 1)) := by
  refine MX.of hG (by decide) (Nat.le_of_ble_eq_true rfl) (fun X hx hq => ?_)
  show J l G X 3 σ 0 [(0, .ref (G.1 0)), (1, .int a0), (2, .int a1)] []
  refine j_aload_n hx d_DL_share_0 rfl 0 rfl ?_
  refine j_iconst (v := 4) hx d_DL_share_1 (by decide) ?_
  refine j_iload_n hx d_DL_share_2 rfl 1 rfl ?_
  refine j_callVv hx (c_DL_needThere hG σ 4 a0 ht3.1 ht3.2) mo_DL_needThere mv_DL_needThere t_984 (by decide) rfl (by decide) (sh_0 _ _) rfl rfl (Nat.le_of_ble_eq_true rfl) d_DL_share_3 ?_
  refine j_aload_n hx d_DL_share_6 rfl 0 rfl ?_
  refine j_iload_n hx d_DL_share_7 rfl 2 rfl ?_
  refine j_iconst (v := 0) hx d_DL_share_8 (by decide) ?_
  refine j_sipush (v := 999) hx d_DL_share_9 (by decide) ?_
  by_cases hn12 : ((¬ a1 < 0) ∧ (a1 ≤ 999))
  · skip
    exact absurd hn12 hbad
  exact j_xcall hx hq (x_DL_needWithin hl hG σ a1 0 999 hn12) mo_DL_needWithin mv_DL_needWithin t_562 (by decide) rfl (by decide) (sh_0 _ _) rfl rfl (Nat.le_of_ble_eq_true rfl) d_DL_share_12

set_option maxRecDepth 20000 in
set_option maxHeartbeats 4000000 in
theorem xN_DL_drawn {l : Launch} (hl : l.stackTraces = false) {G : Gz} (hG : zI G) (σ : St) (a0 : Int32) (hbad : ¬ (((¬ a0 < 0) ∧ (a0 < rg (σ 6) 6 0)))) : MX l G y_DL_drawn prog_1_method_27_code 4 (some .int) 8 [.ref (G.1 0), .int a0] σ xNSE (up σ 0 15 (σ 0 15 + 1)) := by
  refine MX.of hG (by decide) (Nat.le_of_ble_eq_true rfl) (fun X hx hq => ?_)
  show J l G X 4 σ 0 [(0, .ref (G.1 0)), (1, .int a0)] []
  refine j_aload_n hx d_DL_drawn_0 rfl 0 rfl ?_
  refine j_iconst (v := 0) hx d_DL_drawn_1 (by decide) ?_
  refine j_iload_n hx d_DL_drawn_2 rfl 1 rfl ?_
  by_cases hn3 : ((¬ a0 < 0) ∧ (a0 < rg (σ 6) 6 0))
  · skip
    exact absurd hn3 hbad
  exact j_xcall hx hq (x_DL_needThere hl hG σ 0 a0 hn3) mo_DL_needThere mv_DL_needThere t_984 (by decide) rfl (by decide) (sh_0 _ _) rfl rfl (Nat.le_of_ble_eq_true rfl) d_DL_drawn_3

set_option maxRecDepth 20000 in
set_option maxHeartbeats 4000000 in
theorem xN_DL_flash {l : Launch} (hl : l.stackTraces = false) {G : Gz} (hG : zI G) (σ : St) (a0 : Int32) (a1 : Int32) (hbad : ¬ (((¬ a0 < 0) ∧ (a0 < rg (σ 6) 6 1)))) : MX l G y_DL_flash prog_1_method_28_code 5 (some .int) 8 [.ref (G.1 0), .int a0, .int a1] σ xNSE (up σ 0 15 (σ 0 15 + 1)) := by
  refine MX.of hG (by decide) (Nat.le_of_ble_eq_true rfl) (fun X hx hq => ?_)
  show J l G X 5 σ 0 [(0, .ref (G.1 0)), (1, .int a0), (2, .int a1)] []
  refine j_aload_n hx d_DL_flash_0 rfl 0 rfl ?_
  refine j_iconst (v := 1) hx d_DL_flash_1 (by decide) ?_
  refine j_iload_n hx d_DL_flash_2 rfl 1 rfl ?_
  by_cases hn3 : ((¬ a0 < 0) ∧ (a0 < rg (σ 6) 6 1))
  · skip
    exact absurd hn3 hbad
  exact j_xcall hx hq (x_DL_needThere hl hG σ 1 a0 hn3) mo_DL_needThere mv_DL_needThere t_984 (by decide) rfl (by decide) (sh_0 _ _) rfl rfl (Nat.le_of_ble_eq_true rfl) d_DL_flash_3

set_option maxRecDepth 20000 in
set_option maxHeartbeats 4000000 in
theorem xI_DL_flash {l : Launch} (hl : l.stackTraces = false) {G : Gz} (hG : zI G) (σ : St) (a0 : Int32) (a1 : Int32) (ht3 : ((¬ a0 < 0) ∧ (a0 < rg (σ 6) 6 1))) (hbad : ¬ (((¬ a1 < 0) ∧ (a1 ≤ 99)))) : MX l G y_DL_flash prog_1_method_28_code 5 (some .int) 8 [.ref (G.1 0), .int a0, .int a1] σ xIAE (up σ 0 16 (σ 0 16 + 1)) := by
  refine MX.of hG (by decide) (Nat.le_of_ble_eq_true rfl) (fun X hx hq => ?_)
  show J l G X 5 σ 0 [(0, .ref (G.1 0)), (1, .int a0), (2, .int a1)] []
  refine j_aload_n hx d_DL_flash_0 rfl 0 rfl ?_
  refine j_iconst (v := 1) hx d_DL_flash_1 (by decide) ?_
  refine j_iload_n hx d_DL_flash_2 rfl 1 rfl ?_
  refine j_callVv hx (c_DL_needThere hG σ 1 a0 ht3.1 ht3.2) mo_DL_needThere mv_DL_needThere t_984 (by decide) rfl (by decide) (sh_0 _ _) rfl rfl (Nat.le_of_ble_eq_true rfl) d_DL_flash_3 ?_
  refine j_aload_n hx d_DL_flash_6 rfl 0 rfl ?_
  refine j_iload_n hx d_DL_flash_7 rfl 2 rfl ?_
  refine j_iconst (v := 0) hx d_DL_flash_8 (by decide) ?_
  refine j_bipush (v := 99) hx d_DL_flash_9 (by decide) ?_
  by_cases hn11 : ((¬ a1 < 0) ∧ (a1 ≤ 99))
  · skip
    exact absurd hn11 hbad
  exact j_xcall hx hq (x_DL_needWithin hl hG σ a1 0 99 hn11) mo_DL_needWithin mv_DL_needWithin t_562 (by decide) rfl (by decide) (sh_0 _ _) rfl rfl (Nat.le_of_ble_eq_true rfl) d_DL_flash_11

set_option maxRecDepth 20000 in
set_option maxHeartbeats 4000000 in
theorem xN_DL_alike {l : Launch} (hl : l.stackTraces = false) {G : Gz} (hG : zI G) (σ : St) (a0 : Int32) (a1 : Int32) (a2 : Int32) (hbad : ¬ (((¬ a0 < 0) ∧ (a0 < rg (σ 6) 6 2)) ∧ ((¬ a1 < 0) ∧ (a1 < rg (σ 6) 6 1)))) : MX l G y_DL_alike prog_1_method_29_code 8 (some .int) 8 [.ref (G.1 0), .int a0, .int a1, .int a2] σ xNSE (up σ 0 15 (σ 0 15 + 1)) := by
  refine MX.of hG (by decide) (Nat.le_of_ble_eq_true rfl) (fun X hx hq => ?_)
  show J l G X 8 σ 0 [(0, .ref (G.1 0)), (1, .int a0), (2, .int a1), (3, .int a2)] []
  refine j_aload_n hx d_DL_alike_0 rfl 0 rfl ?_
  refine j_iconst (v := 2) hx d_DL_alike_1 (by decide) ?_
  refine j_iload_n hx d_DL_alike_2 rfl 1 rfl ?_
  by_cases hn3 : ((¬ a0 < 0) ∧ (a0 < rg (σ 6) 6 2))
  · skip
    refine j_callVv hx (c_DL_needThere hG σ 2 a0 hn3.1 hn3.2) mo_DL_needThere mv_DL_needThere t_984 (by decide) rfl (by decide) (sh_0 _ _) rfl rfl (Nat.le_of_ble_eq_true rfl) d_DL_alike_3 ?_
    refine j_aload_n hx d_DL_alike_6 rfl 0 rfl ?_
    refine j_iconst (v := 1) hx d_DL_alike_7 (by decide) ?_
    refine j_iload_n hx d_DL_alike_8 rfl 2 rfl ?_
    by_cases hn9 : ((¬ a1 < 0) ∧ (a1 < rg (σ 6) 6 1))
    · skip
      exact absurd ⟨hn3, hn9⟩ hbad
    exact j_xcall hx hq (x_DL_needThere hl hG σ 1 a1 hn9) mo_DL_needThere mv_DL_needThere t_984 (by decide) rfl (by decide) (sh_0 _ _) rfl rfl (Nat.le_of_ble_eq_true rfl) d_DL_alike_9
  exact j_xcall hx hq (x_DL_needThere hl hG σ 2 a0 hn3) mo_DL_needThere mv_DL_needThere t_984 (by decide) rfl (by decide) (sh_0 _ _) rfl rfl (Nat.le_of_ble_eq_true rfl) d_DL_alike_3

set_option maxRecDepth 20000 in
set_option maxHeartbeats 4000000 in
theorem xI_DL_alike {l : Launch} (hl : l.stackTraces = false) {G : Gz} (hG : zI G) (σ : St) (a0 : Int32) (a1 : Int32) (a2 : Int32) (ht3 : ((¬ a0 < 0) ∧ (a0 < rg (σ 6) 6 2))) (ht9 : ((¬ a1 < 0) ∧ (a1 < rg (σ 6) 6 1))) (hbad : ¬ (((¬ a2 < 0) ∧ (a2 ≤ 1)))) : MX l G y_DL_alike prog_1_method_29_code 8 (some .int) 8 [.ref (G.1 0), .int a0, .int a1, .int a2] σ xIAE (up σ 0 16 (σ 0 16 + 1)) := by
  refine MX.of hG (by decide) (Nat.le_of_ble_eq_true rfl) (fun X hx hq => ?_)
  show J l G X 8 σ 0 [(0, .ref (G.1 0)), (1, .int a0), (2, .int a1), (3, .int a2)] []
  refine j_aload_n hx d_DL_alike_0 rfl 0 rfl ?_
  refine j_iconst (v := 2) hx d_DL_alike_1 (by decide) ?_
  refine j_iload_n hx d_DL_alike_2 rfl 1 rfl ?_
  refine j_callVv hx (c_DL_needThere hG σ 2 a0 ht3.1 ht3.2) mo_DL_needThere mv_DL_needThere t_984 (by decide) rfl (by decide) (sh_0 _ _) rfl rfl (Nat.le_of_ble_eq_true rfl) d_DL_alike_3 ?_
  refine j_aload_n hx d_DL_alike_6 rfl 0 rfl ?_
  refine j_iconst (v := 1) hx d_DL_alike_7 (by decide) ?_
  refine j_iload_n hx d_DL_alike_8 rfl 2 rfl ?_
  refine j_callVv hx (c_DL_needThere hG σ 1 a1 ht9.1 ht9.2) mo_DL_needThere mv_DL_needThere t_984 (by decide) rfl (by decide) (sh_0 _ _) rfl rfl (Nat.le_of_ble_eq_true rfl) d_DL_alike_9 ?_
  refine j_aload_n hx d_DL_alike_12 rfl 0 rfl ?_
  refine j_iload_n hx d_DL_alike_13 rfl 3 rfl ?_
  refine j_iconst (v := 0) hx d_DL_alike_14 (by decide) ?_
  refine j_iconst (v := 1) hx d_DL_alike_15 (by decide) ?_
  by_cases hn16 : ((¬ a2 < 0) ∧ (a2 ≤ 1))
  · skip
    exact absurd hn16 hbad
  exact j_xcall hx hq (x_DL_needWithin hl hG σ a2 0 1 hn16) mo_DL_needWithin mv_DL_needWithin t_562 (by decide) rfl (by decide) (sh_0 _ _) rfl rfl (Nat.le_of_ble_eq_true rfl) d_DL_alike_16

set_option maxRecDepth 20000 in
set_option maxHeartbeats 4000000 in
theorem xN_DL_blind {l : Launch} (hl : l.stackTraces = false) {G : Gz} (hG : zI G) (σ : St) (a0 : Int32) (hbad : ¬ (((¬ a0 < 0) ∧ (a0 < rg (σ 6) 6 3)))) : MX l G y_DL_blind prog_1_method_30_code 2 (some .int) 8 [.ref (G.1 0), .int a0] σ xNSE (up σ 0 15 (σ 0 15 + 1)) := by
  refine MX.of hG (by decide) (Nat.le_of_ble_eq_true rfl) (fun X hx hq => ?_)
  show J l G X 2 σ 0 [(0, .ref (G.1 0)), (1, .int a0)] []
  refine j_aload_n hx d_DL_blind_0 rfl 0 rfl ?_
  refine j_iconst (v := 3) hx d_DL_blind_1 (by decide) ?_
  refine j_iload_n hx d_DL_blind_2 rfl 1 rfl ?_
  by_cases hn3 : ((¬ a0 < 0) ∧ (a0 < rg (σ 6) 6 3))
  · skip
    exact absurd hn3 hbad
  exact j_xcall hx hq (x_DL_needThere hl hG σ 3 a0 hn3) mo_DL_needThere mv_DL_needThere t_984 (by decide) rfl (by decide) (sh_0 _ _) rfl rfl (Nat.le_of_ble_eq_true rfl) d_DL_blind_3

set_option maxRecDepth 20000 in
set_option maxHeartbeats 4000000 in
theorem xI_DL_reefs {l : Launch} (hl : l.stackTraces = false) {G : Gz} (hG : zI G) (σ : St) (a0 : Int32) (hbad : ¬ (((¬ a0 < 0) ∧ (a0 ≤ 2)))) : MX l G y_DL_reefs prog_1_method_31_code 3 (some .int) 8 [.ref (G.1 0), .int a0] σ xIAE (up σ 0 16 (σ 0 16 + 1)) := by
  refine MX.of hG (by decide) (Nat.le_of_ble_eq_true rfl) (fun X hx hq => ?_)
  show J l G X 3 σ 0 [(0, .ref (G.1 0)), (1, .int a0)] []
  refine j_aload_n hx d_DL_reefs_0 rfl 0 rfl ?_
  refine j_iload_n hx d_DL_reefs_1 rfl 1 rfl ?_
  refine j_iconst (v := 0) hx d_DL_reefs_2 (by decide) ?_
  refine j_iconst (v := 2) hx d_DL_reefs_3 (by decide) ?_
  by_cases hn4 : ((¬ a0 < 0) ∧ (a0 ≤ 2))
  · skip
    exact absurd hn4 hbad
  exact j_xcall hx hq (x_DL_needWithin hl hG σ a0 0 2 hn4) mo_DL_needWithin mv_DL_needWithin t_562 (by decide) rfl (by decide) (sh_0 _ _) rfl rfl (Nat.le_of_ble_eq_true rfl) d_DL_reefs_4

set_option maxRecDepth 20000 in
set_option maxHeartbeats 4000000 in
theorem xI_DL_brightest {l : Launch} (hl : l.stackTraces = false) {G : Gz} (hG : zI G) (σ : St) (a0 : Int32) (hbad : ¬ (((¬ a0 < 0) ∧ (a0 ≤ 1)))) : MX l G y_DL_brightest prog_1_method_32_code 6 (some .int) 8 [.ref (G.1 0), .int a0] σ xIAE (up σ 0 16 (σ 0 16 + 1)) := by
  refine MX.of hG (by decide) (Nat.le_of_ble_eq_true rfl) (fun X hx hq => ?_)
  show J l G X 6 σ 0 [(0, .ref (G.1 0)), (1, .int a0)] []
  refine j_aload_n hx d_DL_brightest_0 rfl 0 rfl ?_
  refine j_iload_n hx d_DL_brightest_1 rfl 1 rfl ?_
  refine j_iconst (v := 0) hx d_DL_brightest_2 (by decide) ?_
  refine j_iconst (v := 1) hx d_DL_brightest_3 (by decide) ?_
  by_cases hn4 : ((¬ a0 < 0) ∧ (a0 ≤ 1))
  · skip
    exact absurd hn4 hbad
  exact j_xcall hx hq (x_DL_needWithin hl hG σ a0 0 1 hn4) mo_DL_needWithin mv_DL_needWithin t_562 (by decide) rfl (by decide) (sh_0 _ _) rfl rfl (Nat.le_of_ble_eq_true rfl) d_DL_brightest_4

set_option maxRecDepth 20000 in
set_option maxHeartbeats 4000000 in
theorem xI_DL_wrecks {l : Launch} (hl : l.stackTraces = false) {G : Gz} (hG : zI G) (σ : St) (a0 : Int32) (a1 : Int32) (hbad : ¬ (((¬ a0 < 0) ∧ (a0 ≤ 1 <<< (cM σ 3 &&& 31) - 1)) ∧ ((¬ a1 < 0) ∧ (a1 ≤ 2)))) : MX l G y_DL_wrecks prog_1_method_33_code 6 (some .int) 8 [.ref (G.1 0), .int a0, .int a1] σ xIAE (up σ 0 16 (σ 0 16 + 1)) := by
  refine MX.of hG (by decide) (Nat.le_of_ble_eq_true rfl) (fun X hx hq => ?_)
  show J l G X 6 σ 0 [(0, .ref (G.1 0)), (1, .int a0), (2, .int a1)] []
  refine j_aload_n hx d_DL_wrecks_0 rfl 0 rfl ?_
  refine j_iload_n hx d_DL_wrecks_1 rfl 1 rfl ?_
  by_cases hn2 : ((¬ a0 < 0) ∧ (a0 ≤ 1 <<< (cM σ 3 &&& 31) - 1))
  · skip
    refine j_callVv hx (c_DL_needShips hG σ a0 hn2.1 hn2.2) mo_DL_needShips mv_DL_needShips t_1090 (by decide) rfl (by decide) (sh_0 _ _) rfl rfl (Nat.le_of_ble_eq_true rfl) d_DL_wrecks_2 ?_
    refine j_aload_n hx d_DL_wrecks_5 rfl 0 rfl ?_
    refine j_iload_n hx d_DL_wrecks_6 rfl 2 rfl ?_
    refine j_iconst (v := 0) hx d_DL_wrecks_7 (by decide) ?_
    refine j_iconst (v := 2) hx d_DL_wrecks_8 (by decide) ?_
    by_cases hn9 : ((¬ a1 < 0) ∧ (a1 ≤ 2))
    · skip
      exact absurd ⟨hn2, hn9⟩ hbad
    exact j_xcall hx hq (x_DL_needWithin hl hG σ a1 0 2 hn9) mo_DL_needWithin mv_DL_needWithin t_562 (by decide) rfl (by decide) (sh_0 _ _) rfl rfl (Nat.le_of_ble_eq_true rfl) d_DL_wrecks_9
  exact j_xcall hx hq (x_DL_needShips hl hG σ a0 hn2) mo_DL_needShips mv_DL_needShips t_1090 (by decide) rfl (by decide) (sh_0 _ _) rfl rfl (Nat.le_of_ble_eq_true rfl) d_DL_wrecks_2

set_option maxRecDepth 20000 in
set_option maxHeartbeats 4000000 in
theorem xI_DL_winter {l : Launch} (hl : l.stackTraces = false) {G : Gz} (hG : zI G) (σ : St) (a0 : Int32) (a1 : Int32) (a2 : Int32) (a3 : Int32) (hbad : ¬ (((¬ a1 < 1) ∧ (a1 ≤ 96)) ∧ ((¬ a2 < 0) ∧ (a2 ≤ 16)) ∧ ((¬ a3 < 0) ∧ (a3 ≤ 3)))) : MX l G y_DL_winter prog_1_method_34_code 5 (some .int) 8 [.ref (G.1 0), .int a0, .int a1, .int a2, .int a3] σ xIAE (up σ 0 16 (σ 0 16 + 1)) := by
  refine MX.of hG (by decide) (Nat.le_of_ble_eq_true rfl) (fun X hx hq => ?_)
  show J l G X 5 σ 0 [(0, .ref (G.1 0)), (1, .int a0), (2, .int a1), (3, .int a2), (4, .int a3)] []
  refine j_aload_n hx d_DL_winter_0 rfl 0 rfl ?_
  refine j_iload_n hx d_DL_winter_1 rfl 2 rfl ?_
  refine j_iconst (v := 1) hx d_DL_winter_2 (by decide) ?_
  refine j_bipush (v := 96) hx d_DL_winter_3 (by decide) ?_
  by_cases hn5 : ((¬ a1 < 1) ∧ (a1 ≤ 96))
  · skip
    refine j_callVv hx (c_DL_needWithin hG σ a1 1 96 hn5.1 hn5.2) mo_DL_needWithin mv_DL_needWithin t_562 (by decide) rfl (by decide) (sh_0 _ _) rfl rfl (Nat.le_of_ble_eq_true rfl) d_DL_winter_5 ?_
    refine j_aload_n hx d_DL_winter_8 rfl 0 rfl ?_
    refine j_iload_n hx d_DL_winter_9 rfl 3 rfl ?_
    refine j_iconst (v := 0) hx d_DL_winter_10 (by decide) ?_
    refine j_bipush (v := 16) hx d_DL_winter_11 (by decide) ?_
    by_cases hn13 : ((¬ a2 < 0) ∧ (a2 ≤ 16))
    · skip
      refine j_callVv hx (c_DL_needWithin hG σ a2 0 16 hn13.1 hn13.2) mo_DL_needWithin mv_DL_needWithin t_562 (by decide) rfl (by decide) (sh_0 _ _) rfl rfl (Nat.le_of_ble_eq_true rfl) d_DL_winter_13 ?_
      refine j_aload_n hx d_DL_winter_16 rfl 0 rfl ?_
      refine j_iload hx d_DL_winter_17 4 rfl ?_
      refine j_iconst (v := 0) hx d_DL_winter_19 (by decide) ?_
      refine j_iconst (v := 3) hx d_DL_winter_20 (by decide) ?_
      by_cases hn21 : ((¬ a3 < 0) ∧ (a3 ≤ 3))
      · skip
        exact absurd ⟨hn5, hn13, hn21⟩ hbad
      exact j_xcall hx hq (x_DL_needWithin hl hG σ a3 0 3 hn21) mo_DL_needWithin mv_DL_needWithin t_562 (by decide) rfl (by decide) (sh_0 _ _) rfl rfl (Nat.le_of_ble_eq_true rfl) d_DL_winter_21
    exact j_xcall hx hq (x_DL_needWithin hl hG σ a2 0 16 hn13) mo_DL_needWithin mv_DL_needWithin t_562 (by decide) rfl (by decide) (sh_0 _ _) rfl rfl (Nat.le_of_ble_eq_true rfl) d_DL_winter_13
  exact j_xcall hx hq (x_DL_needWithin hl hG σ a1 1 96 hn5) mo_DL_needWithin mv_DL_needWithin t_562 (by decide) rfl (by decide) (sh_0 _ _) rfl rfl (Nat.le_of_ble_eq_true rfl) d_DL_winter_5

set_option maxRecDepth 20000 in
set_option maxHeartbeats 4000000 in
theorem xI_DL_span {l : Launch} (hl : l.stackTraces = false) {G : Gz} (hG : zI G) (σ : St) (a0 : Int32) (a1 : Int32) (a2 : Int32) (a3 : Int32) (a4 : Int32) (hbad : ¬ (((¬ a1 < 1) ∧ (a1 ≤ 20)) ∧ ((¬ a2 < 1) ∧ (a2 ≤ 96)) ∧ ((¬ a3 < 0) ∧ (a3 ≤ 16)) ∧ ((¬ a4 < 0) ∧ (a4 ≤ 2)))) : MX l G y_DL_span prog_1_method_35_code 10 (some .int) 8 [.ref (G.1 0), .int a0, .int a1, .int a2, .int a3, .int a4] σ xIAE (up σ 0 16 (σ 0 16 + 1)) := by
  refine MX.of hG (by decide) (Nat.le_of_ble_eq_true rfl) (fun X hx hq => ?_)
  show J l G X 10 σ 0 [(0, .ref (G.1 0)), (1, .int a0), (2, .int a1), (3, .int a2), (4, .int a3), (5, .int a4)] []
  refine j_aload_n hx d_DL_span_0 rfl 0 rfl ?_
  refine j_iload_n hx d_DL_span_1 rfl 2 rfl ?_
  refine j_iconst (v := 1) hx d_DL_span_2 (by decide) ?_
  refine j_bipush (v := 20) hx d_DL_span_3 (by decide) ?_
  by_cases hn5 : ((¬ a1 < 1) ∧ (a1 ≤ 20))
  · skip
    refine j_callVv hx (c_DL_needWithin hG σ a1 1 20 hn5.1 hn5.2) mo_DL_needWithin mv_DL_needWithin t_562 (by decide) rfl (by decide) (sh_0 _ _) rfl rfl (Nat.le_of_ble_eq_true rfl) d_DL_span_5 ?_
    refine j_aload_n hx d_DL_span_8 rfl 0 rfl ?_
    refine j_iload_n hx d_DL_span_9 rfl 3 rfl ?_
    refine j_iconst (v := 1) hx d_DL_span_10 (by decide) ?_
    refine j_bipush (v := 96) hx d_DL_span_11 (by decide) ?_
    by_cases hn13 : ((¬ a2 < 1) ∧ (a2 ≤ 96))
    · skip
      refine j_callVv hx (c_DL_needWithin hG σ a2 1 96 hn13.1 hn13.2) mo_DL_needWithin mv_DL_needWithin t_562 (by decide) rfl (by decide) (sh_0 _ _) rfl rfl (Nat.le_of_ble_eq_true rfl) d_DL_span_13 ?_
      refine j_aload_n hx d_DL_span_16 rfl 0 rfl ?_
      refine j_iload hx d_DL_span_17 4 rfl ?_
      refine j_iconst (v := 0) hx d_DL_span_19 (by decide) ?_
      refine j_bipush (v := 16) hx d_DL_span_20 (by decide) ?_
      by_cases hn22 : ((¬ a3 < 0) ∧ (a3 ≤ 16))
      · skip
        refine j_callVv hx (c_DL_needWithin hG σ a3 0 16 hn22.1 hn22.2) mo_DL_needWithin mv_DL_needWithin t_562 (by decide) rfl (by decide) (sh_0 _ _) rfl rfl (Nat.le_of_ble_eq_true rfl) d_DL_span_22 ?_
        refine j_aload_n hx d_DL_span_25 rfl 0 rfl ?_
        refine j_iload hx d_DL_span_26 5 rfl ?_
        refine j_iconst (v := 0) hx d_DL_span_28 (by decide) ?_
        refine j_iconst (v := 2) hx d_DL_span_29 (by decide) ?_
        by_cases hn30 : ((¬ a4 < 0) ∧ (a4 ≤ 2))
        · skip
          exact absurd ⟨hn5, hn13, hn22, hn30⟩ hbad
        exact j_xcall hx hq (x_DL_needWithin hl hG σ a4 0 2 hn30) mo_DL_needWithin mv_DL_needWithin t_562 (by decide) rfl (by decide) (sh_0 _ _) rfl rfl (Nat.le_of_ble_eq_true rfl) d_DL_span_30
      exact j_xcall hx hq (x_DL_needWithin hl hG σ a3 0 16 hn22) mo_DL_needWithin mv_DL_needWithin t_562 (by decide) rfl (by decide) (sh_0 _ _) rfl rfl (Nat.le_of_ble_eq_true rfl) d_DL_span_22
    exact j_xcall hx hq (x_DL_needWithin hl hG σ a2 1 96 hn13) mo_DL_needWithin mv_DL_needWithin t_562 (by decide) rfl (by decide) (sh_0 _ _) rfl rfl (Nat.le_of_ble_eq_true rfl) d_DL_span_13
  exact j_xcall hx hq (x_DL_needWithin hl hG σ a1 1 20 hn5) mo_DL_needWithin mv_DL_needWithin t_562 (by decide) rfl (by decide) (sh_0 _ _) rfl rfl (Nat.le_of_ble_eq_true rfl) d_DL_span_5
