/-! ===== a work read by both: steps ===== -/
/-- step k is the same on both sides, and in its bounds -/
def RW (s t : St) (k : Nat) : Prop := s 76 k = t (511 + k) 0 ∧ ((t (511 + k) 0 = 4 ∨ t (511 + k) 0 = 5) ∨ s 78 k = t (511 + k) 1) ∧ (t (511 + k) 0 = 2 → s 80 k = t (511 + k) 2) ∧ (t (511 + k) 0 = 6 → s 80 k = t (511 + k) 3) ∧
  ((t (511 + k) 0 = 0 ∨ t (511 + k) 0 = 1) → 0 ≤ (t (511 + k) 1).toInt ∧ (t (511 + k) 1).toInt < (t 115 1).toInt) ∧ (t (511 + k) 0 = 2 → (0 ≤ (t (511 + k) 1).toInt ∧ (t (511 + k) 1).toInt < (t 115 2).toInt) ∧ 0 ≤ (t (511 + k) 2).toInt ∧ (t (511 + k) 2).toInt < (t 115 0).toInt) ∧
  (t (511 + k) 0 = 3 → 0 ≤ (t (511 + k) 1).toInt ∧ (t (511 + k) 1).toInt < (t 115 3).toInt) ∧ (t (511 + k) 0 = 6 → 0 ≤ (t (511 + k) 1).toInt ∧ (t (511 + k) 1).toInt ≤ 30) ∧
  (t (511 + k) 0 = 0 ∨ t (511 + k) 0 = 1 ∨ t (511 + k) 0 = 2 ∨ t (511 + k) 0 = 3 ∨ t (511 + k) 0 = 4 ∨ t (511 + k) 0 = 5 ∨ t (511 + k) 0 = 6) ∧ (¬ t (511 + k) 0 = 6 → t (511 + k) 3 = nI (k + 1))
theorem RW_fr {s s' t t' : St} {k : Nat} (h : RW s t k) (h1 : s' 76 k = s 76 k) (h2 : s' 78 k = s 78 k) (h3 : s' 80 k = s 80 k) (h4 : t' (511 + k) = t (511 + k)) (h5 : t' 115 = t 115) : RW s' t' k := by
  unfold RW; rw [h1, h2, h3, h4, h5]; exact h
/-- the coast's counts on both sides -/
def CE (s t : St) : Prop := (cM s 0 = t 115 0 ∧ cM s 1 = t 115 1 ∧ cM s 2 = t 115 2 ∧ cM s 3 = t 115 3) ∧ ∀ k, k < 4 → 0 ≤ (t 115 k).toInt ∧ (t 115 k).toInt ≤ 12
theorem CE_fr {s s' t t' : St} (h : CE s t) (h6 : s' 6 = s 6) (h5 : t' 115 = t 115) : CE s' t' := by
  unfold CE cM; rw [h6, h5]; exact h
/-- what a class's reading of steps leaves alone -/
def WFR (s s' : St) : Prop := (∀ o, o ≠ 1 → o ≠ 74 → o ≠ 76 → o ≠ 78 → o ≠ 80 → s' o = s o) ∧ KP s s' ∧ ∀ k, k ≠ 3 → s' 74 k = s 74 k
theorem WFR.rf {s : St} : WFR s s := ⟨fun _ _ _ _ _ _ => rfl, KP.rf, fun _ _ => rfl⟩
theorem WFR.tr {s u v : St} (h : WFR s u) (h2 : WFR u v) : WFR s v := ⟨fun o a b c d e => (h2.1 o a b c d e).trans (h.1 o a b c d e), KP.tr h.2.1 h2.2.1, fun k a => (h2.2.2 k a).trans (h.2.2 k a)⟩
theorem WFR_1 {s s' : St} (h : ∀ o, o ≠ 1 → s' o = s o) (hk : KP s s') : WFR s s' := ⟨fun o a _ _ _ _ => h o a, hk, fun k _ => by rw [h 74 (by decide)]⟩
theorem WFR_tk {s : St} {c : Int32} : WFR s (tkR s c) := WFR_1 (fun _ a => tkR_o a) tkR_kp
theorem WFR_bl {s : St} {k p : Int32} : WFR s (bl s k p) := WFR_1 (fun _ a => bl_o a) bl_kp
theorem WFR_wo {s : St} {w : Nat} : WFR s (woS s w) := WFR_1 (fun _ a => woS_o a) woS_kp
theorem WFR_rs {s : St} {o n : Nat} {i v : Int32} (h : o + 1 = 76 ∨ o + 1 = 78 ∨ o + 1 = 80) : WFR s (rs s o n i v) := ⟨fun q _ _ b c d => rs_o (by omega), fun k _ _ _ _ => by rw [rs_o (by omega)], fun k _ => by rw [rs_o (by omega)]⟩
theorem WFR_n {s : St} {o n : Nat} {i lo hi : Int32} (h : o + 1 = 76 ∨ o + 1 = 78 ∨ o + 1 = 80) : WFR s (rn1 s o n i lo hi) := by
  unfold rn1
  refine WFR.tr (u := nuS s lo hi) ?_ (WFR_rs h)
  exact WFR_1 (fun _ a => nuS_o a) nuS_kp
theorem WFR_w3 {s : St} : WFR s (ws3 s) := by
  unfold ws3
  have h : WFR s (ws2 s) := by unfold ws2; exact WFR_wo.tr (WFR_rs (Or.inl rfl))
  exact h.tr ⟨fun q _ b _ _ _ => up_o b, fun k _ _ _ _ => by rw [up_o (by decide)], fun k b => up_k b⟩
theorem WFR_ag {rec : St → St} (hr : ∀ s, WFR s (rec s)) {op st : Int32} {s : St} : WFR s (raF rec op st s) := by
  unfold raF; split
  · exact ((((WFR_n (Or.inr (Or.inl rfl))).tr WFR_tk).tr (hr _)).tr WFR_tk).tr (WFR_rs (Or.inr (Or.inr rfl)))
  · exact WFR_bl
theorem WFR_rt {rec : St → St} (hr : ∀ s, WFR s (rec s)) {op : Int32} (s : St) : WFR s (rtF rec op s) := by
  unfold rtF
  refine WFR_w3.tr ?_
  unfold rtK
  split
  · exact WFR_n (Or.inr (Or.inl rfl))
  split
  · exact WFR_n (Or.inr (Or.inl rfl))
  split
  · unfold rl3; exact (WFR_n (Or.inr (Or.inl rfl))).tr (WFR_n (Or.inr (Or.inr rfl)))
  split
  · exact WFR_n (Or.inr (Or.inl rfl))
  split
  · exact WFR.rf
  split
  · exact WFR.rf
  split
  · exact WFR_ag hr
  · exact WFR.rf
theorem WFR_R {f : St → St} (hr : ∀ s, WFR s (f s)) : ∀ (m : Nat) (s : St), WFR s (stR f m s) := by
  intro m
  induction m with
  | zero => intro s; exact WFR.rf
  | succ m ih =>
    intro s
    rw [stR]; split
    · exact WFR.rf
    · exact ((hr s).tr WFR_tk).tr (ih _)
theorem WFR_N : ∀ (n : Nat) (op : Int32) (s : St), WFR s (wsN n op s) := by
  intro n
  induction n with
  | zero => intro op s; exact WFR_R (WFR_rt (fun _ => WFR.rf)) 150 s
  | succ n ih => intro op s; exact WFR_R (WFR_rt (fun _ => ih _ _)) 150 s
theorem tkR_same {s : St} {c : Int32} (h : ¬ s 1 5 = 0) : tkR s c = s := by
  have e : tkS s c = s := tkS_n (fun z => h z.1)
  unfold tkR; rw [e]; unfold rq; split
  · exact bl_same h
  · rfl
/-- what a reading, from s and t to s' and t', has made -/
def PO (s t s' t' : St) : Prop := SY s' t' ∧ (t' 111 5 = 0 → s' 74 3 = t' 111 32 ∧ (∀ k, sN t ≤ k → k < sN t' → RW s' t' k) ∧ ∀ k, k < sN t → s' 76 k = s 76 k ∧ s' 78 k = s 78 k ∧ s' 80 k = s 80 k)
theorem PO.bad {s t s' t' : St} (h : SY s' t') (h5 : ¬ t' 111 5 = 0) : PO s t s' t' := ⟨h, fun z => absurd z h5⟩
/-- the two sides before a step, at depth op -/
def PR (op : Int32) (s t : St) : Prop := SY s t ∧ pW t ∧ t 111 8 = op ∧ CE s t ∧ (t 111 5 = 0 → s 74 3 = t 111 32)
/-- a block's steps and its closing sign, read by both -/
def BK (op : Int32) (fC : St → St) (fR : St → St) : Prop := ∀ s t : St, PR op s t → mbl t = t → PO s t (tkR (fC s) 93) (msg (wqR wqc1 fR 151 t) 93)
theorem wst_e {s t : St} {op : Int32} (h : PR op s t) (h5 : t 111 5 = 0) (hk : ¬ mzV t = -1) : SY (ws3 s) (wq2 (mbz t) (mzV t)) ∧ (ws3 s) 74 3 = nI (sN t + 1) ∧ (ws3 s) 76 = upd (s 76) (sN t) (mzV t) ∧ (∀ o, o ≠ 1 → o ≠ 74 → o ≠ 76 → (ws3 s) o = s o) ∧ s 74 3 = nI (sN t) ∧ sN t < 80 ∧ wqP (sN t) (mbz t) := by
  obtain ⟨S, W, -, -, C⟩ := h
  have ez := mz_e S h5
  have hk' : ¬ woI s 3 = -1 := fun z => hk (ez.trans z)
  have W2 : pW (mbz t) := okq.pW (mbz_q (r := 0) W.1) W (by omega)
  have h32 : mbz t 111 32 = t 111 32 := mbz_k (by decide)
  have hP : wqP (sN t) (mbz t) := ⟨W2, by rw [mbz_5]; exact h5, by unfold sN; rw [h32], (mz_f hk).2⟩
  obtain ⟨q1, q2, q3, q4, q5, q6, q7⟩ := wq2_q (k := mzV t) hP
  have hb := W.2.2.1 h5
  have c := C h5
  have ei : s 74 3 = nI (sN t) := by rw [c]; unfold sN; exact (nI_bk hb.1).symm
  have S1 := S.ywo h5
  have em : mbz t = mbl t := by unfold mbz; exact if_pos h5
  have eC : ws3 s = up (up (woS s 3) 76 (sN t) (mzV t)) 74 3 (nI (sN t + 1)) := by
    have e2 : ws2 s = up (woS s 3) 76 (sN t) (mzV t) := by
      unfold ws2; rw [ei, rs_nI (by omega) (by decide), ez]
    unfold ws3; rw [e2, up_o (by decide), woS_o (by decide), ei, nI_s]
  have e1 : woS s 3 = mvt (wo1 s) (woE (wo1 s)) := woS_1 hk'
  refine ⟨?_, ?_, ?_, fun o a b d => ?_, ei, q1, hP⟩
  · rw [eC, e1, em]
    unfold wq2
    refine SY.cl (SY.cr S1 ?_ ?_ ?_ ?_ ?_) ?_ ?_ ?_ ?_ ?_
    · rw [up_o (by omega), up_k (by decide)]
    · rw [up_o (by omega), up_k (by decide)]
    · rw [up_o (by omega), up_k (by decide)]
    · rw [up_o (by omega), up_k (by decide)]
    · rw [up_o (by omega), up_o (by decide)]
    · rw [up_o (by decide), up_o (by decide)]
    · rw [up_o (by decide), up_o (by decide)]
    · rw [up_o (by decide), up_o (by decide)]
    · rw [up_o (by decide), up_o (by decide)]
    · rw [up_o (by decide), up_o (by decide)]
  · rw [eC, up_rd]
  · rw [eC, up_o (by decide), up_row, woS_o (by decide)]
  · rw [eC, up_o b, up_o d]; exact woS_o a
