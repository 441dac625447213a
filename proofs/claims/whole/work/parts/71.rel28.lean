/-! ===== what reading a coast leaves ===== -/
abbrev KP (s s' : St) : Prop := ∀ k, k ≠ 3 → k ≠ 4 → k ≠ 5 → k ≠ 6 → s' 1 k = s 1 k
theorem nu1_kp {s : St} : KP s (nu1 s) := fun k a b c d => nu1_k b c d
theorem nuS_kp {s : St} {lo hi : Int32} : KP s (nuS s lo hi) := fun k a b c d => by
  unfold nuS; split
  · rw [bl_k c d, mvt_k a, nu1_k b c d]
  · rw [mvt_k a, nu1_k b c d]
theorem tkR_kp {s : St} {c : Int32} : KP s (tkR s c) := fun k a b c' d => by
  have e : tkS s c 1 k = s 1 k := by
    unfold tkS; split
    · rw [mvt_k a, up_k b]
    · rfl
  unfold tkR rq; split
  · rw [bl_k c' d, e]
  · exact e
theorem woS_kp {s : St} {w : Nat} : KP s (woS s w) := fun k a b c d => by
  have e : mvt (wo1 s) (woE (wo1 s)) 1 k = s 1 k := by rw [mvt_k a]; unfold wo1; exact up_k b
  unfold woS; split
  · rw [bl_k c d, e]
  · exact e
theorem rn1_kp {s : St} {row n : Nat} {idx lo hi : Int32} (h : row ≠ 0) : KP s (rn1 s row n idx lo hi) := fun k a b c d => by
  unfold rn1; rw [rs_o (by omega)]; exact nuS_kp k a b c d
theorem bl_kp {s : St} {k p : Int32} : KP s (bl s k p) := fun j a b c d => bl_k c d
theorem KP.tr {s u v : St} (h : KP s u) (h2 : KP u v) : KP s v := fun k a b c d => (h2 k a b c d).trans (h k a b c d)
theorem KP.rf {s : St} : KP s s := fun _ _ _ _ _ => rfl
/-- the class's coast's draft, and the tape, alone have changed -/
def CFX (s s' : St) : Prop := (∀ q, q ≠ 1 → (q < 27 ∨ 50 ≤ q) → s' q = s q) ∧ KP s s'
theorem CFX.rf {s : St} : CFX s s := ⟨fun _ _ _ => rfl, KP.rf⟩
theorem CFX.tr {s u v : St} (h : CFX s u) (h2 : CFX u v) : CFX s v := ⟨fun q a b => (h2.1 q a b).trans (h.1 q a b), KP.tr h.2 h2.2⟩
theorem CFX_n {s : St} {row n : Nat} {idx lo hi : Int32} (h : 26 ≤ row ∧ row < 49) : CFX s (rn1 s row n idx lo hi) := ⟨fun q a b => rn1_o a (by omega), rn1_kp (by omega)⟩
theorem CFX_rns {s : St} {k idx : Int32} : CFX s (rns s k idx) := by
  unfold rns
  split
  · exact CFX_n (by decide)
  split
  · exact (CFX_n (by decide)).tr (CFX_n (by decide))
  split
  · exact (CFX_n (by decide)).tr (CFX_n (by decide))
  split
  · exact (((CFX_n (by decide)).tr (CFX_n (by decide))).tr (CFX_n (by decide))).tr (CFX_n (by decide))
  split
  · exact CFX_n (by decide)
  · exact ⟨fun q a b => by unfold rsi; rw [up_o (by omega), nuS_o a], fun k a b c d => by unfold rsi; rw [up_o (by decide)]; exact nuS_kp k a b c d⟩
theorem CFX_rc1 {s : St} {a : Int32} : CFX s (rc1 s a) := by
  unfold rc1; split
  · exact ⟨fun q x y => by rw [bl_o x, woS_o x], KP.tr woS_kp bl_kp⟩
  · exact ⟨fun q x y => woS_o x, woS_kp⟩
theorem CFX_rcS {s : St} {a : Int32} : CFX s (rcS s a) := by
  unfold rcS; split
  · exact CFX_rc1
  · have e : CFX s (rc2 (rc1 s a) (woI s 1)) := CFX_rc1.tr (by unfold rc2; exact CFX_rns)
    refine e.tr ⟨fun q x y => by rw [rc3_o (by omega), tkR_o x], fun k a b c d => by rw [rc3_o (by decide)]; exact tkR_kp k a b c d⟩
theorem CFX_rfR : ∀ (m a : Nat) (s : St), CFX s (rfR m a s) := by
  intro m
  induction m with
  | zero => intro a s; exact CFX.rf
  | succ m ih =>
    intro a s
    rw [rfR]; split
    · exact CFX.rf
    · exact CFX_rcS.tr (ih _ _)
theorem opn_k {s : St} {n : Int32} {k : Nat} (h : 7 ≤ k ∨ k = 0) : opn s n 1 k = s 1 k := by
  unfold opn; rw [mvt_k (by omega), up_k (by omega), up_k (by omega), up_k (by omega), up_k (by omega)]
theorem opn_1 {s : St} {n : Int32} : opn s n 1 1 = 0 := by
  unfold opn; rw [mvt_k (by decide), up_k (by decide), up_k (by decide), up_rd]
theorem opn_o {s : St} {n : Int32} {o : Nat} (h : o ≠ 1) : opn s n o = s o := by
  unfold opn; rw [mvt_o h, up_o h, up_o h, up_o h, up_o h]
theorem xc1_f {σ : St} {n : Int32} : (∀ q, q ≠ 1 → (q < 27 ∨ 50 ≤ q) → xc1 σ n q = σ q) ∧ xc1 σ n 1 1 = 0 := by
  obtain ⟨a, b⟩ := CFX_rfR 61 0 (rf0 (opn σ n))
  refine ⟨fun q x y => ?_, ?_⟩
  · show rfR 61 0 (rf0 (opn σ n)) q = _
    rw [a q x y]; unfold rf0; rw [up_o (by omega), fl_o (by omega), opn_o x]
  · show rfR 61 0 (rf0 (opn σ n)) 1 1 = _
    rw [b 1 (by decide) (by decide) (by decide) (by decide)]; unfold rf0; rw [up_o (by decide), fl_o (by decide), opn_1]
/-! the reference's -/
abbrev oR (o : Nat) : Prop := o ≠ 111 ∧ o ≠ 114 ∧ o ≠ 116 ∧ o ≠ 118 ∧ (o < 137 ∨ 143 ≤ o) ∧ (o < 149 ∨ 152 ≤ o) ∧ (o < 155 ∨ 161 ≤ o)
abbrev fR (f : Nat) : Prop := f ≠ 4 ∧ f ≠ 5 ∧ f ≠ 6 ∧ f ≠ 7
theorem mnO_ff {t : St} {o k f : Nat} {lo hi : Int32} (ho : o ≠ 111) (h4 : f ≠ 4) (h5 : f ≠ 5) (h6 : f ≠ 6) : mnO t o k lo hi 111 f = t 111 f := by rw [mnO_f ho]; exact mnS_k h4 h5 h6
def MF (t t' : St) : Prop := (∀ o, oR o → t' o = t o) ∧ ∀ f, fR f → t' 111 f = t 111 f
theorem MF.rf {t : St} : MF t t := ⟨fun _ _ => rfl, fun _ _ => rfl⟩
theorem MF.tr {t u v : St} (h : MF t u) (h2 : MF u v) : MF t v := ⟨fun o a => (h2.1 o a).trans (h.1 o a), fun f a => (h2.2 f a).trans (h.2 f a)⟩
theorem MF_n {t : St} {o k : Nat} {lo hi : Int32} (h : ¬ oR o) (ho : o ≠ 111) : MF t (mnO t o k lo hi) := ⟨fun q a => mnO_o a.1 (fun e => h (e ▸ a)), fun f a => mnO_ff ho a.1 a.2.1 a.2.2.1⟩
theorem MF_C {t : St} {k : Nat} : MF t (mcC t k) := ⟨fun q a => mcC_o a.2.1, fun f a => by rw [mcC_o (by decide)]⟩
theorem MF_c3 {t : St} : MF t (mc3 t) := ⟨fun q a => mc3_o a.1, fun f a => by unfold mc3 msk; rw [up_k a.2.2.2, up_k a.1]⟩
theorem MF_sg {t : St} {c : Int32} : MF t (msg t c) := ⟨fun q a => msg_o a.1, fun f a => msg_k a.1 a.2.1 a.2.2.1⟩
theorem MF_bl {t : St} : MF t (mbl t) := ⟨fun q a => mbl_o a.1, fun f a => mbl_k a.1⟩
theorem MF_bz {t : St} : MF t (mbz t) := by unfold mbz; split; exact MF_bl; exact MF.rf
theorem MF_wr {t : St} {k p : Int32} : MF t (wr t k p) := ⟨fun q a => wr_o a.1, fun f a => wr_k a.2.1 a.2.2.1⟩
theorem MF_A {t : St} {j : Nat} {m : Int32} : MF t (mcA t j m) := by unfold mcA; split; exact MF_bz.tr MF_wr; exact MF_bz
theorem MF_A5 {t : St} : MF t (mcA5 t) := by unfold mcA5; split; exact MF_bz.tr MF_wr; exact MF_bz
theorem MF_E {t A : St} {B C : St → St} (hA : MF t A) (hB : A 111 5 = 0 → MF (mc3 A) (C (B (mc3 A)))) : MF t (mcE A B C) := by
  unfold mcE; split
  · rename_i z; exact ((hA.tr MF_c3).tr (hB z)).tr MF_sg
  · exact hA
theorem MF_mcl {t : St} (hr : rtW (t 114)) : MF t (mclS t) := by
  have nnA : ∀ (j k : Nat) (m : Int32), nn (mc3 (mcA t j m)) k = nn t k := fun j k m => by unfold nn; rw [mc3_o (by decide), mcA_o (by decide)]
  have lt : ∀ (k : Nat) (m : Int32) (M : Int), mcA t k m 111 5 = 0 → m.toInt = M → (t 114 k).toInt ≤ M → 0 ≤ (t 114 k).toInt → (nn t k : Int) < M := fun k m M h hm h1 h0 => by
    have hne := (mcA_f h).1
    unfold nn
    have : ¬ (t 114 k).toInt = M := fun z => hne (Int32.toInt_inj.mp (z.trans hm.symm))
    omega
  obtain ⟨q0, q1, q2, q3, q4⟩ := hr
  unfold mclS
  split
  · exact MF_E (MF_bz.tr MF_wr) (fun z => absurd z (wr_5 (by decide)))
  split
  · exact MF_E MF_A (fun _ => (by unfold mcB0; exact MF_n (by decide) (by decide) : MF _ (mcB0 _)).tr MF_C)
  split
  · refine MF_E MF_A (fun z => MF.tr ?_ MF_C)
    have := lt 1 6 6 z rfl q1.2 q1.1
    unfold mcB2; rw [nnA]
    exact (MF_n (by omega) (by omega)).tr (MF_n (by omega) (by omega))
  split
  · refine MF_E MF_A (fun z => MF.tr ?_ MF_C)
    have := lt 2 3 3 z rfl q2.2 q2.1
    unfold mcB2; rw [nnA]
    exact (MF_n (by omega) (by omega)).tr (MF_n (by omega) (by omega))
  split
  · refine MF_E MF_A (fun z => MF.tr ?_ MF_C)
    have := lt 3 6 6 z rfl q3.2 q3.1
    unfold mcB3; rw [nnA]
    exact (((MF_n (by omega) (by omega)).tr (MF_n (by omega) (by omega))).tr (MF_n (by omega) (by omega))).tr (MF_n (by omega) (by omega))
  split
  · exact MF_E MF_A (fun _ => (by unfold mcB4; exact MF_n (by decide) (by decide) : MF _ (mcB4 _)).tr MF_C)
  · refine MF_E MF_A5 (fun _ => ?_)
    show MF _ (mcB5 _)
    have e : ∀ u : St, MF u (mnS u 0 5) := fun u => ⟨fun q a => mnS_o a.1, fun f a => mnS_k a.1 a.2.1 a.2.2.1⟩
    unfold mcB5; split
    · exact (e _).tr ⟨fun q a => up_o a.2.1, fun f a => by rw [up_o (by decide)]⟩
    · exact e _
theorem MF_mco : ∀ (N : Nat) (t : St), rtW (t 114) → MF t (mcoR N t) := by
  intro N
  induction N with
  | zero => intro t _; exact MF.rf
  | succ N ih =>
    intro t hr
    rw [mcoR]; split
    · exact ((MF_mcl hr).tr MF_bl).tr (ih _ (by rw [mbl_o (by decide)]; exact mcl_rt hr))
    · exact MF.rf
theorem mcoF_f {τ : St} {n : Int32} : (∀ o, oR o → mcoF τ n o = τ o) ∧ (∀ f, fR f → f ≠ 0 → f ≠ 1 → f ≠ 2 → f ≠ 8 → mcoF τ n 111 f = τ 111 f) ∧ mcoF τ n 111 1 = 0 := by
  obtain ⟨a, b⟩ := MF_mco 601 (mco0 τ n) (by unfold mco0; exact mtn_rt)
  refine ⟨fun o ho => ?_, fun f hf h0 h1 h2 h8 => ?_, ?_⟩
  · show mcoR 601 (mco0 τ n) o = _
    rw [a o ho]; unfold mco0; rw [mtn_o ho.2.1, mst_o ho.1]; unfold t0; rw [up_o ho.1]
  · show mcoR 601 (mco0 τ n) 111 f = _
    rw [b f hf]; unfold mco0; rw [mtn_o (by decide), mst_3 (by omega)]; unfold t0; rw [up_k h0]
  · show mcoR 601 (mco0 τ n) 111 1 = _
    rw [b 1 (by decide)]; unfold mco0; rw [mtn_o (by decide)]; unfold mst; rw [mbl_k (by decide), up_k (by decide), up_k (by decide), up_k (by decide), up_k (by decide), up_k (by decide), up_k (by decide), up_rd]
