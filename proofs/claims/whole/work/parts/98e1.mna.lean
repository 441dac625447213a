theorem arrV_ext {c : ClassId} {N : Nat} {f g : Nat → Value} (h : ∀ j, j < N → f j = g j) : arrV c N f = arrV c N g := by
  unfold arrV
  have : (fun j : Fin N => f j.val) = fun j : Fin N => g j.val := funext fun j => h j.val j.isLt
  rw [this]
/-! NEW INT[N][K] OF THE MODEL: the outer array, then each row, each written into its place as it is made -/
section MZ
/-- the outer array with i places filled -/
def mzO (cA : ClassId) (N h i : Nat) : Cell := arrV cA N (fun j => if j < i then .ref (h + 1 + j) else .null)
def mzI (cI : ClassId) (K : Nat) : Cell := arrV cI K (fun _ => .int 0)
/-- the state with i rows made -/
def mzF (s : State) (cA cI : ClassId) (N K : Nat) : Nat → State
  | 0 => s.pushCell (mzO cA N s.heap.size 0)
  | i + 1 => ((mzF s cA cI N K i).pushCell (mzI cI K)).setCell s.heap.size ((mzO cA N s.heap.size i).setSlot i (.ref (s.heap.size + 1 + i)))
theorem mzO_s {cA : ClassId} {N h i : Nat} : (mzO cA N h i).setSlot i (.ref (h + 1 + i)) = mzO cA N h (i + 1) := by
  unfold mzO
  rw [arrV_store]
  refine arrV_ext fun j _ => ?_
  unfold updV
  by_cases e : j = i
  · rw [if_pos e, if_pos (by omega), e]
  · rw [if_neg e]
    show (if j < i then Value.ref (h + 1 + j) else Value.null) = _
    by_cases g : j < i
    · rw [if_pos g, if_pos (by omega)]
    · rw [if_neg g, if_neg (by omega)]
theorem mzO_z {cA : ClassId} {N h i : Nat} : (mzO cA N h i).slots.size = N ∧ (mzO cA N h i).vm = .none := ⟨by unfold mzO; exact arrV_size _ _ _, rfl⟩
theorem mzI_z {cI : ClassId} {K : Nat} : (mzI cI K).slots.size = K := by unfold mzI; exact arrV_size _ _ _
theorem mz_facts (s : State) (cA cI : ClassId) (N K : Nat) : ∀ i, (mzF s cA cI N K i).heap.size = s.heap.size + 1 + i ∧ (mzF s cA cI N K i).heap[s.heap.size]? = some (mzO cA N s.heap.size i) ∧ (mzF s cA cI N K i).vm = s.vm ∧ (mzF s cA cI N K i).slotsUsed = s.slotsUsed + N + i * K ∧
    (∀ q, q < s.heap.size → (mzF s cA cI N K i).heap[q]? = s.heap[q]?) ∧ ∀ j, j < i → (mzF s cA cI N K i).heap[s.heap.size + 1 + j]? = some (mzI cI K)
  | 0 => by
    refine ⟨by simp [mzF], by simp [mzF], rfl, ?_, fun q hq => State.heap_pushCell_of_lt _ _ hq, fun j hj => absurd hj (Nat.not_lt_zero _)⟩
    simp [mzF, (mzO_z (cA := cA) (N := N) (h := s.heap.size) (i := 0)).1]
  | i + 1 => by
    obtain ⟨a, b, c, d, e, f⟩ := mz_facts s cA cI N K i
    have hlt : s.heap.size < (mzF s cA cI N K i).heap.size := by omega
    have hb' : ((mzF s cA cI N K i).pushCell (mzI cI K)).heap[s.heap.size]? = some (mzO cA N s.heap.size i) := by rw [State.heap_pushCell_of_lt (h := hlt)]; exact b
    refine ⟨?_, ?_, by simp [mzF, c], ?_, fun q hq => ?_, fun j hj => ?_⟩
    · simp [mzF, State.setCell, a]; omega
    · rw [← mzO_s]; exact State.heap_setCell_self hb'
    · simp [mzF, d, mzI_z, Nat.succ_mul]; omega
    · show (((mzF s cA cI N K i).pushCell (mzI cI K)).setCell s.heap.size _).heap[q]? = _
      have hq1 : q < (mzF s cA cI N K i).heap.size := by omega
      rw [State.heap_setCell_other (Nat.ne_of_gt hq), State.heap_pushCell_of_lt (h := hq1)]
      exact e q hq
    · show (((mzF s cA cI N K i).pushCell (mzI cI K)).setCell s.heap.size _).heap[s.heap.size + 1 + j]? = _
      rw [State.heap_setCell_other (show s.heap.size ≠ s.heap.size + 1 + j by omega)]
      by_cases g : j < i
      · have hq1 : s.heap.size + 1 + j < (mzF s cA cI N K i).heap.size := by omega
        rw [State.heap_pushCell_of_lt (h := hq1)]
        exact f j g
      · have ej : j = i := by omega
        subst ej
        rw [← a]
        exact State.heap_pushCell_size _ _
theorem mz_top (s : State) (f : JFrame) (cA cI : ClassId) (N K : Nat) : ∀ i, mzF (s.setTop f) cA cI N K i = (mzF s cA cI N K i).setTop f
  | 0 => rfl
  | i + 1 => by simp only [mzF, mz_top s f cA cI N K i, State.heap_setTop, State.pushCell_setTop, State.setCell_setTop]
variable {E : CtlPost} {e : Env} {d : Bool} {acts : List Action} {s : State}
/-- one array made -/
theorem mz_new {c comp : ClassId} {k : Class} {type : FieldType} {len : Nat} {init : Value} (hk : s.vm.classes[c]? = some k) (hkind : k.kind = .array comp type) (l1 : ¬ len > e.platform.arrayLengthLimit) (l2 : ¬ len * componentBytes type > e.platform.maxHeapBytes) (hfit : fits type init = true) (hdef : init.isDefault = true) {Q : Addr → Pre}
    (h1 : s.heap.size < e.platform.maxCells) (h2 : s.slotsUsed + len ≤ e.platform.maxSlots) (hq : Q s.heap.size d acts (s.pushCell (arrV c len (fun _ => init)))) : Sem.wp (Jvm.newArray c len init) Q E e d acts s := by
  rw [← arrV_new] at hq
  have hz : allocActs (Array.replicate len init) s.heap.size acts = acts := by
    have hall : ((Array.replicate len init).all (·.isDefault)) = true := by
      rw [Array.all_replicate]; split <;> simp [hdef]
    unfold allocActs
    rw [if_pos hall]
  have hfits : ∀ (i : Nat) (v : Value), (Array.replicate len init)[i]? = some v → s.fitsSlot c .none i v = true := fun i v hv => by
    rw [Array.getElem?_replicate] at hv
    split at hv
    · cases hv; simp [State.fitsSlot, State.slotType?, hk, hkind, hfit]
    · cases hv
  simp only [Jvm.newArray, Jvm.arrayFits, Sem.wp_bind', W.ask, W.ite, l1, if_false, Sem.wp_pure', W.theClass, hk, hkind, l2, W.alloc, W.stop, Option.some.injEq, exists_eq_left', Array.size_replicate, hz]
  rw [if_neg (by omega)]
  exact ⟨h1, h2, hfits, hq⟩
end MZ
section MZ2
variable {E : CtlPost} {e : Env} {d : Bool} {acts : List Action} {s : State}
theorem mz_row {cI ci2 : ClassId} {kI : Class} {m : Int32} {K : Nat} (hk : s.vm.classes[cI]? = some kI) (hkind : kI.kind = .array ci2 .int) (hm : ¬ m < 0) (hK : m.toNatClampNeg = K) (l1 : ¬ K > e.platform.arrayLengthLimit) (l2 : ¬ K * 4 > e.platform.maxHeapBytes) {Q : Addr → Pre}
    (h1 : s.heap.size < e.platform.maxCells) (h2 : s.slotsUsed + K ≤ e.platform.maxSlots) (hq : Q s.heap.size d acts (s.pushCell (mzI cI K))) : Sem.wp (Op.multianewarray.make cI [m]) Q E e d acts s := by
  rw [Op.multianewarray.make]
  simp only [Sem.wp_bind', W.ite, hm, if_false, Sem.wp_pure', W.theClass, hk, hkind, Option.some.injEq, exists_eq_left', hK]
  exact mz_new hk hkind l1 l2 rfl rfl h1 h2 hq
theorem mz_all {cA cI ci2 : ClassId} {kA kI : Class} {n m : Int32} {N K : Nat} (hkA : s.vm.classes[cA]? = some kA) (hkindA : kA.kind = .array cI (.array .int)) (hkI : s.vm.classes[cI]? = some kI) (hkindI : kI.kind = .array ci2 .int) (hn : ¬ n < 0) (hm : ¬ m < 0) (hN : n.toNatClampNeg = N) (hK : m.toNatClampNeg = K)
    (l1 : ¬ N > e.platform.arrayLengthLimit) (l2 : ¬ N * 4 > e.platform.maxHeapBytes) (l3 : ¬ K > e.platform.arrayLengthLimit) (l4 : ¬ K * 4 > e.platform.maxHeapBytes) (h1 : s.heap.size + 1 + N ≤ e.platform.maxCells) (h2 : s.slotsUsed + N + N * K ≤ e.platform.maxSlots)
    {Q : Addr → Pre} (hq : ∀ d' acts', Q s.heap.size d' acts' (mzF s cA cI N K N)) : Sem.wp (Op.multianewarray.make cA [n, m]) Q E e d acts s := by
  have hno : ([m].find? (· < 0)) = none := by simp [hm]
  rw [Op.multianewarray.make]
  simp only [Sem.wp_bind', W.ite, hn, if_false, Sem.wp_pure', W.theClass, hkA, hkindA, Option.some.injEq, exists_eq_left', hN]
  refine mz_new hkA hkindA l1 l2 rfl rfl (by omega) (by have := Nat.zero_le (N * K); omega) ?_
  simp only [hno]
  rw [ite_self, Sem.wp_bind', Std.Legacy.Range.forIn_eq_forIn_range']
  rw [show ([:N] : Std.Legacy.Range).size = N by simp [Std.Legacy.Range.size]]
  show Sem.wp (forIn (List.range' 0 N 1) PUnit.unit _) _ E e d acts _
  have h00 : s.pushCell (arrV cA N (fun _ => Value.null)) = mzF s cA cI N K 0 := by
    show _ = s.pushCell (mzO cA N s.heap.size 0)
    unfold mzO
    rw [arrV_ext (g := fun _ => Value.null) (fun j _ => if_neg (Nat.not_lt_zero _))]
  refine wp_forIn_inv (fun rest s' => ∃ i, i ≤ N ∧ rest = List.range' i (N - i) ∧ s' = mzF s cA cI N K i) _ _ ⟨0, Nat.zero_le _, rfl, h00⟩ ?_ ?_
  · intro x rest s' d' acts' Q' hI hnext
    obtain ⟨i, hi, hl, rfl⟩ := hI
    have hlt : i < N := by
      rcases Nat.lt_or_ge i N with g | g
      · exact g
      · rw [Nat.sub_eq_zero_of_le g] at hl; simp at hl
    have hx : x = i ∧ rest = List.range' (i + 1) (N - (i + 1)) := by
      rw [show N - i = (N - (i + 1)) + 1 by omega, List.range'_succ] at hl
      exact ⟨(List.cons.inj hl).1, (List.cons.inj hl).2⟩
    obtain ⟨rfl, hrest⟩ := hx
    obtain ⟨f1, f2, f3, f4, -, -⟩ := mz_facts s cA cI N K x
    obtain ⟨o1, o2⟩ := mzO_z (cA := cA) (N := N) (h := s.heap.size) (i := x)
    have hmul : x * K + K ≤ N * K := by
      have := Nat.mul_le_mul_right K (show x + 1 ≤ N from hlt)
      rw [Nat.succ_mul] at this
      exact this
    simp only [Sem.wp_bind']
    refine mz_row (kI := kI) (ci2 := ci2) (by rw [f3]; exact hkI) hkindI hm hK l3 l4 (by rw [f1]; omega) (by rw [f4]; omega) ?_
    have hlt0 : s.heap.size < (mzF s cA cI N K x).heap.size := by rw [f1]; omega
    simp only [Sem.wp_bind', W.writeLoc, Sem.wp_pure']
    have hc9 : ((mzF s cA cI N K x).pushCell (mzI cI K)).heap[s.heap.size]? = some (mzO cA N s.heap.size x) := by rw [State.heap_pushCell_of_lt (h := hlt0)]; exact f2
    have hfit : ((mzF s cA cI N K x).pushCell (mzI cI K)).fitsSlot cA .none x (.ref (mzF s cA cI N K x).heap.size) = true := by
      have hkx : (mzF s cA cI N K x).vm.classes[cA]? = some kA := by
        rw [f3]; exact hkA
      simp [State.fitsSlot, State.slotType?, hkx, hkindA, fits]
    refine ⟨mzO cA N s.heap.size x, hc9, ?_, ?_, ?_, hnext _ _ _ ⟨x + 1, hlt, hrest, ?_⟩⟩
    · rw [o2]; simp
    · rw [o1]; exact hlt
    · rw [o2]; exact hfit
    · show _ = ((mzF s cA cI N K x).pushCell (mzI cI K)).setCell s.heap.size ((mzO cA N s.heap.size x).setSlot x (.ref (s.heap.size + 1 + x)))
      rw [f1]
  · intro s' d' acts' hI
    obtain ⟨i, hi, hl, rfl⟩ := hI
    have hNi : i = N := by
      rcases Nat.lt_or_ge i N with g | g
      · rw [show N - i = (N - (i + 1)) + 1 by omega, List.range'_succ] at hl; cases hl
      · omega
    subst hNi
    simp only [Sem.wp_pure']
    exact hq _ _
end MZ2
section MZ3
variable {p : Program} {l : Launch} {e : Env} {R : Room} {s : State} {m : MethodId} {args : Array Value} {below : List Frame} {meth : Method} {c : Code} {H : Heap} {locs : List Loc} {cells slots : Nat} {Q : State → Prop} {cc : ByteArray} {pc : Nat} {ls : Array Slot} {rest : List Value} {T : State}
theorem mz_stand (X : Stand p l e R s m args below meth c T locs cells slots) (cA cI : ClassId) (N K : Nat) : ∀ i, ∃ locs' : List Loc, (∀ x ∈ locs', x ∈ locs ∨ x.base = T.heap.size) ∧ Stand p l e R s m args below meth c (mzF T cA cI N K i) locs' (cells + 1 + i) (slots + N + i * K)
  | 0 => by
    have h := X.pushed (mzO cA N T.heap.size 0)
    rw [(mzO_z (cA := cA) (N := N) (h := T.heap.size) (i := 0)).1] at h
    refine ⟨locs, fun x hx => Or.inl hx, ?_⟩
    rw [Nat.zero_mul]
    exact h
  | i + 1 => by
    obtain ⟨locs', hl, Xi⟩ := mz_stand X cA cI N K i
    obtain ⟨f1, f2, -, -, -, -⟩ := mz_facts T cA cI N K i
    have hlt : T.heap.size < (mzF T cA cI N K i).heap.size := by omega
    have hcell : ((mzF T cA cI N K i).pushCell (mzI cI K)).heap[T.heap.size]? = some (mzO cA N T.heap.size i) := by rw [State.heap_pushCell_of_lt (h := hlt)]; exact f2
    have h := (Xi.pushed (mzI cI K)).stored hcell i (.ref (T.heap.size + 1 + i))
    rw [mzI_z] at h
    refine ⟨locs' ++ [⟨T.heap.size, i⟩], fun x hx => ?_, ?_⟩
    · rcases List.mem_append.mp hx with h9 | h9
      · exact hl x h9
      · rw [List.mem_singleton.mp h9]; exact Or.inr rfl
    · rw [show slots + N + (i + 1) * K = slots + N + i * K + K by rw [Nat.succ_mul]; omega]
      exact h
/-- new int[n][k] -/
theorem W_mna (hexec : p.tables.exec = Jvm.exec) (hb : c.code = cc) {own : String} {index : Nat} (hown : s.vm.findClass own = some m.cls) (hclink : (Cond.classLink own index "[[I").before args s = true) {cA cI ci2 : ClassId} {kA kI : Class} (hcA : s.vm.findClass "[[I" = some cA) (hkA : s.vm.classes[cA]? = some kA) (hkindA : kA.kind = .array cI (.array .int)) (hkI : s.vm.classes[cI]? = some kI) (hkindI : kI.kind = .array ci2 .int)
    {n k : Int32} {N K : Nat} (hn : ¬ n < 0) (hk : ¬ k < 0) (hN : n.toNatClampNeg = N) (hK : k.toNatClampNeg = K) (hN2 : N < 100000) (hK2 : K < 100000) (hcells : cells + (1 + N) ≤ R.cells) (hslots : slots + (N + N * K) ≤ R.slots) {h : Nat} (hh : H.size = h) (hdg : decode cc pc = .ok (.multianewarray index 2, 4))
    (kk : ∀ (H' : Heap) (locs' : List Loc), H'[h]? = some (arrV cA N (fun j => .ref (h + 1 + j))) → (∀ j, j < N → H'[h + 1 + j]? = some (arrV cI K (fun _ => .int 0))) → H'.size = h + 1 + N → (∀ q, q < h → H'[q]? = H[q]?) → (∀ x ∈ locs', x ∈ locs ∨ x.base = h) →
      W p l e R s m args below meth c H' locs' (cells + 1 + N) (slots + N + N * K) Q (F0 m (pc + 4) ls (.ref h :: rest))) : W p l e R s m args below meth c H locs cells slots Q (F0 m pc ls (.int k :: .int n :: rest)) := by
  intro T hT X
  subst hT
  subst hh
  subst hb
  have hpl : e.platform.magicAccessors = ({} : Platform).magicAccessors := by rw [X.admits.platform]
  obtain ⟨c0, hfc0, hcl⟩ := Cond.classLink_spec hown hclink e.platform hpl
  cases hcA.symm.trans hfc0
  obtain ⟨hg1, hw1, -⟩ := State.classEntry (e := e) X.warmed hcl
  generalize T.vm.noted m.cls index (.cls cA) = vm1 at hg1 hw1
  have hal : s.vm.Alike vm1 := hw1.alike
  obtain ⟨kA', hkA', eA⟩ := hal.2.2 _ _ hkA
  obtain ⟨kI', hkI', eI⟩ := hal.2.2 _ _ hkI
  have hkindA' : kA'.kind = .array cI (.array .int) := by rw [eA]; exact hkindA
  have hkindI' : kI'.kind = .array ci2 .int := by rw [eI]; exact hkindI
  obtain ⟨r1, r2⟩ := X.roomAbove hcells hslots
  obtain ⟨locs', hlo, XF⟩ := mz_stand (X.noted hw1) cA cI N K N
  obtain ⟨f1, f2, f3, f4, f5, f6⟩ := mz_facts (T.setVm vm1) cA cI N K N
  have hz : (T.setVm vm1).heap = T.heap := rfl
  rw [hz] at f1 f2 f5 f6 hlo
  have e1 : mzO cA N T.heap.size N = arrV cA N (fun j => .ref (T.heap.size + 1 + j)) := by
    unfold mzO
    exact arrV_ext fun j hj => if_pos hj
  rw [e1] at f2
  obtain ⟨t, st, hQ⟩ := kk _ locs' f2 f6 f1 f5 hlo _ rfl XF
  refine ⟨t, ?_, hQ⟩
  have l1 : ¬ N > e.platform.arrayLengthLimit := by rw [Launch.admits_arrayLengthLimit X.admits]; omega
  have l2 : ¬ N * 4 > e.platform.maxHeapBytes := by rw [Launch.admits_maxHeapBytes X.admits]; omega
  have l3 : ¬ K > e.platform.arrayLengthLimit := by rw [Launch.admits_arrayLengthLimit X.admits]; omega
  have l4 : ¬ K * 4 > e.platform.maxHeapBytes := by rw [Launch.admits_maxHeapBytes X.admits]; omega
  generalize hF : mzF (T.setVm vm1) cA cI N K N = F at *
  jvm_step X.here [hexec, hdg]
  simp only [Op.multianewarray.sem, Sem.wp_bind', W.resolveClassAt_links (State.method?_setTop (F0 m pc ls (.int k :: .int n :: rest)) X.here.top) hg1]
  rw [W.popN, if_neg (by decide)]
  refine ⟨F0 m pc ls (.int k :: .int n :: rest), State.topJava?_setTop' (s := T.setVm vm1) _ X.here.top, [.int n, .int k], rest, rfl, rfl, ?_⟩
  simp only [List.mapM_cons, List.mapM_nil, Sem.wp_bind', Sem.wp_pure']
  refine mz_all (kA := kA') (kI := kI') (ci2 := ci2) (N := N) (K := K) hkA' hkindA' hkI' hkindI' hn hk hN hK l1 l2 l3 l4 (by show T.heap.size + 1 + _ ≤ _; omega) (by show T.slotsUsed + _ + _ ≤ _; omega) (fun d' acts' => ?_)
  have eS : ((T.setTop (F0 m pc ls (.int k :: .int n :: rest))).setVm vm1).setTop (F0 m pc ls rest) = (T.setVm vm1).setTop (F0 m pc ls rest) := by
    show ((T.setVm vm1).setTop _).setTop _ = _
    rw [State.setTop_setTop]
  rw [show ({ F0 m pc ls (.int k :: .int n :: rest) with stack := rest } : JFrame) = F0 m pc ls rest from rfl, eS, mz_top, hF]
  simp only [Sem.wp_bind', W.mark, W.pushRef, State.topJava?_setTop' _ XF.here.top, Option.some.injEq, exists_eq_left', State.setTop_setTop, State.heap_setTop]
  intro acts
  simp [jvm, XF.here.top]
  exact st
end MZ3
