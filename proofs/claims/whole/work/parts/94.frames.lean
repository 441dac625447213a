/-! WHAT SCRATCH WORK LEAVES: the class's questions write their scratch rows alone -/
def scr (o : Nat) : Bool := o == 56 || o == 58 || o == 86 || o == 88 || o == 90 || o == 92 || o == 93 || o == 95 || o == 97 || o == 98 || o == 101 || o == 110
def FS (s s' : St) : Prop := ∀ o, scr o = false → s' o = s o
theorem FS.rf {s : St} : FS s s := fun _ _ => rfl
theorem FS.tr {a b c : St} (h : FS a b) (h2 : FS b c) : FS a c := fun o ho => (h2 o ho).trans (h o ho)
theorem scr_ne {o q : Nat} (ho : scr o = true) (hq : scr q = false) : q ≠ o := fun e => by rw [e, ho] at hq; cases hq
theorem FS.at {s x y : St} (h : FS s x) {o : Nat} (ho : scr o = true) (hx : ∀ q, q ≠ o → y q = x q) : FS s y := fun q hq => (hx q (scr_ne ho hq)).trans (h q hq)
theorem FS.u {s x : St} (h : FS s x) {o k : Nat} {v : Int32} (ho : scr o = true) : FS s (up x o k v) := h.at ho (fun _ hq => up_o hq)
theorem FS.w {s x : St} (h : FS s x) {o n : Nat} {i v : Int32} (ho : scr (o + 1) = true) : FS s (rs x o n i v) := by
  unfold rs
  split
  · exact h.u ho
  · exact h
theorem FS.l {s x : St} (h : FS s x) {o n : Nat} {f : Nat → Int32} (ho : scr o = true) : FS s (fl x o n f) := h.at ho (fun q hq => by
  show (if q = o then _ else _) = _
  rw [if_neg hq])
theorem FS.i {α : Type} {s : St} {f : Nat → α → α} {g : α → St} (hf : ∀ k z, FS s (g z) → FS s (g (f k z))) {a : α} (h : FS s (g a)) : ∀ n, FS s (g (it f a n))
  | 0 => h
  | n + 1 => hf n _ (FS.i hf h n)
set_option maxRecDepth 20000 in
theorem fsL {s x : St} (h : FS s x) : FS s (lwS x) := by
  unfold lwS lrn
  exact FS.i (g := Prod.fst) (fun k z hz => by
    unfold lst
    split
    · exact FS.w (o := 57) hz rfl
    · split
      · exact FS.w (o := 57) hz rfl
      · dsimp only
        exact FS.w (o := 57) hz rfl) h _
theorem fsT {s x : St} (h : FS s x) {i a b c d : Int32} : FS s (tls x i a b c d) := by
  unfold tls ts1 ts2 ts3
  exact ((((((h.w rfl).w rfl).w rfl).w rfl).w rfl).w rfl).w rfl
theorem fsN {s x : St} (h : FS s x) {a b : Int32} : FS s (tln x a b) := by
  unfold tln
  exact (h.w rfl).w rfl
theorem fsP {s x : St} (h : FS s x) {i m w : Int32} : FS s (psT x i m w) := by
  unfold psT ps2
  split
  · exact (fsL (fsT (h.w rfl))).w rfl
  · exact h
theorem fsR {s : St} {i : Int32} : ∀ (n m : Nat) (x : St), FS s x → FS s (psR i n m x).2
  | 0, _, _, h => h
  | n + 1, m, x, h => by
    unfold psR
    split
    · exact fsR n _ _ h
    · split
      · exact fsR n _ _ (fsP h)
      · exact fsP h
theorem fsK {s x : St} (h : FS s x) {i : Int32} : FS s (psk x i).2 := by
  unfold psk
  exact fsR _ _ _ h
theorem fsD {s x : St} (h : FS s x) {n : Nat} : FS s (rdk x n).1 := by
  unfold rdk
  exact FS.i (g := Prod.fst) (fun k z hz => by
    unfold rdB
    split
    · exact hz.w rfl
    · exact hz.w rfl) h _
theorem fsB {s x : St} (h : FS s x) {o : Nat} : FS s (pbS x o) := by
  unfold pbS
  refine fsD ?_
  unfold pb1
  refine FS.i (g := fun z => z) (fun k z hz => hz.w rfl) ?_ _
  unfold pb0
  exact fsN ((h.l rfl).l rfl)
theorem fsX {s x : St} (h : FS s x) {i : Int32} : FS s (xps x i).2 := by
  unfold xps
  exact fsK (fsB h)
theorem fsS {s x : St} (h : FS s x) {i : Int32} {n : Nat} : FS s (scl x i n).1 := by
  unfold scl
  exact FS.i (g := Prod.fst) (fun k z hz => by
    unfold scB sc1
    exact fsL (fsT hz)) h _
theorem fs_tried {s x : St} (h : FS s x) {i w : Int32} : FS s (xtS x i w) := by
  unfold xtS
  split
  · exact fsS (fsX h)
  · exact fsX h
theorem fs_wrecks {s x : St} (h : FS s x) {ships w : Int32} {n : Nat} : FS s (xwr x ships w n).2 := by
  unfold xwr
  exact FS.i (g := Prod.snd) (fun k z hz => by
    unfold xwB
    split
    · split
      · exact fsK hz
      · exact fsK hz
    · exact hz) (fsB h) _
theorem fs_saF {s x : St} (h : FS s x) {n : Nat} : FS s (saF x n).2 := by
  unfold saF
  exact FS.i (g := Prod.snd) (fun k z hz => by
    unfold saB
    exact fsK hz) h _
theorem fs_pqF {s x : St} (h : FS s x) {ships : Int32} {n : Nat} : FS s (pqF x ships n).2 := by
  unfold pqF
  exact FS.i (g := Prod.snd) (fun k z hz => by
    unfold pqB
    split
    · exact hz
    · exact fsK hz) h _
theorem fs_sfF {s x : St} (h : FS s x) {n : Nat} : FS s (sfF x n).2 := by
  unfold sfF
  exact FS.i (g := Prod.snd) (fun k z hz => by
    unfold sfB
    exact fsK hz) h _
theorem fs_lk {s x : St} (h : FS s x) : FS s (lkS x) := by
  unfold lkS lkD lk1
  refine FS.i (g := fun z => z) (fun k z hz => ?_) (FS.i (g := fun z => z) (fun k z hz => hz.w rfl) h _) _
  unfold lkC
  exact FS.i (g := fun z => z) (fun k z hz => hz.w rfl) hz _
theorem fs_put {s x : St} (h : FS s x) {ships : Int32} : FS s (pdS x ships) := by
  unfold pdS pdN
  refine FS.i (g := fun z => z) (fun k z hz => ?_) ?_ _
  · have h1 : FS s (pdZ z ships k).2 := by
      unfold pdZ sdS sd1
      exact fs_pqF (fsD (FS.i (g := fun z => z) (fun k z hz => hz.w rfl) hz _))
    show FS s (pdB ships k z)
    unfold pdB
    split
    · exact h1
    · exact (h1.u rfl).u rfl
  · unfold pd0
    exact (fs_lk (fsB h)).u rfl
theorem fs_save {s x : St} (h : FS s x) : FS s (plS x) := by
  unfold plS plC
  refine FS.i (g := fun z => z) (fun k z hz => ?_) ?_ _
  · show FS s (plQ z (nI k) _)
    unfold plQ plP
    refine FS.i (g := fun z => z) (fun k z hz => ?_) hz _
    have h1 : ∀ c p r, FS s (plZ z c p r).2 := fun c p r => by
      unfold plZ shL slS
      exact fs_sfF (fsD (FS.i (g := fun z => z) (fun k z hz => hz.w rfl) hz _))
    show FS s (plB _ _ _ z)
    unfold plB
    split
    · exact h1 _ _ _
    · exact (((h1 _ _ _).u rfl).u rfl).u rfl
  · unfold pm0 wnN
    exact (FS.i (g := fun z => z) (fun k z hz => hz.w rfl) (fsB h) _).u rfl
theorem fs_code {s x : St} (h : FS s x) {n : Int32} : FS s (mmS x n) := h.at (o := 110) rfl (fun _ hq => mmS_o hq)
theorem fs_psP {s x : St} (h : FS s x) {i : Int32} : FS s (psP x 99 i) := by
  unfold psP
  exact (fsK (fsB h)).at (o := 101) rfl (fun _ hq => hps_o hq)
theorem fs_winter {s x : St} (h : FS s x) {seed n q : Int32} : FS s (xwn x seed n q) := by
  unfold xwn wlv
  refine FS.i (g := fun z => z) (fun k z hz => ?_) ?_ _
  · show FS s (wlB _ q z)
    have hd : ∀ {y : St}, FS s y → FS s (drS y) := fun hy => by
      unfold drS
      exact hy.u rfl
    have h1 : FS s (wl1 z q) := by
      unfold wl1
      split
      · exact hd hz
      · exact (hd hz).at (o := 101) rfl (fgS_row (s := drS z) (o := 99)).2.2
    have h2 : FS s (wl2 (wl1 z q)) := by
      unfold wl2
      exact h1.u rfl
    unfold wlB wl3
    refine FS.at (o := 101) (x := (if wsh (wbS x 81 seed) ≤ 0 then wl2 (wl1 z q) else psP (drS (wl2 (wl1 z q))) 99 (drV (wl2 (wl1 z q)) (wsh (wbS x 81 seed))))) ?_ rfl (fun _ hq => nnS_o hq)
    split
    · exact h2
    · exact fs_psP (hd h2)
  · unfold wbS fwS wb1
    refine FS.u (FS.u ?_ rfl) rfl
    exact ((((h.at (o := 101) rfl (fun _ hq => cpy_o hq)).w rfl).w rfl).w rfl).w rfl
theorem fs_span {s x : St} (h : FS s x) {seed n q : Int32} {k : Nat} : FS s (xsp x seed n q k).2 := by
  unfold xsp
  exact FS.i (g := Prod.snd) (fun k z hz => by
    unfold xspB
    exact fs_winter hz) h _
theorem fs_would {s x : St} (h : FS s x) {n9 fg i a b c d : Int32} : FS s (lwS (tls (tln x n9 fg) i a b c d)) := fsL (fsT (fsN h))
theorem fs_safe {s x : St} (h : FS s x) {n : Nat} : FS s (saF (pbS x 81) n).2 := fs_saF (fsB h)
/-- the reference's questions: its own scratch (120, 121, 123 and its fields 0 and from 41 on) -/
theorem FS.sx {s s' : St} (h : FS s s') : sx s s' := ⟨fun o h1 _ _ => h o (by unfold scr; simp; omega), fun f _ _ => by rw [h 111 (by decide)]⟩
