/-! THE LAW'S WRAPPERS: WO, the contract of one; each answers 0 and leaves the answer in out, or answers what was thrown. -/
def zAo (G : Gz) (ao sz : Nat) : Nat → Prop := fun q => zA G sz q ∨ q = ao
def zBo (G : Gz) (ao : Nat) (cL : ClassId) (σ : St) (v : Int64) (sz : Nat) (U : State) : Prop := U.heap.size = sz ∧ va_P G.2.1 zcl (zwo G σ ao cL v) U.heap ∧ va_K G.2.1 zcl (ztyo G cL) U ∧ zX G (zAo G ao sz) U U.heap
def zQo (G : Gz) (ao : Nat) (cL : ClassId) (r : Int32) (σ : St) (v : Int64) (sz : Nat) : Array Value → State → Outcome → State → Prop := va_Qi (fun (r' : Int32) (u : St × Int64) => r' = r ∧ u = (σ, v)) (fun u t => va_P G.2.1 zcl (zwo G u.1 ao cL u.2) t.heap) (zAo G ao sz)
def WO (l : Launch) (G : Gz) (ao : Nat) (cL : ClassId) (y : MethodName) (b : ByteArray) (nL : Nat) (hh : List (Nat × Nat × Nat × Nat)) (k : Nat) (av : List Value) (σ : St) (v : Int64) (r : Int32) (σ' : St) (v' : Int64) : Prop := ∀ sz : Nat, Met l y (.codeWith y b nL (some .int) hh :: TB) (rmX k) (va_Pc av (zBo G ao cL σ v sz)) (zQo G ao cL r σ' v' sz) 1 6 (zAo G ao sz)
def EO (G : Gz) (ao : Nat) (cL : ClassId) (X : Cx) (r : Int32) (σ : St) (v : Int64) : Prop := (xh X).sig.returnType = some .int ∧ xQ X = MQ (xb X) (zQo G ao cL r σ v (xs X).heap.size) (xa X) (xs X) 1 6 (zAo G ao (xs X).heap.size)
theorem zBo_blind {G : Gz} {ao : Nat} {cL : ClassId} {σ : St} {v : Int64} {sz : Nat} {av : List Value} : FrameBlind (va_Pc av (zBo G ao cL σ v sz)) := fun a U g mk h => ⟨h.1, h.2.1, h.2.2.1, va_K.moved (u := U) (U := U.calling g mk a) (Vm.Alike.refl U.vm) h.2.2.2.1, zX.same (s := U) (U := U.calling g mk a) rfl h.2.2.2.2⟩
theorem WO.of {l : Launch} {G : Gz} {ao : Nat} {cL : ClassId} {y : MethodName} {b : ByteArray} {nL : Nat} {hh : List (Nat × Nat × Nat × Nat)} {k : Nat} {av : List Value} {σ σ' : St} {v v' : Int64} {r : Int32} (hG : zI G) (hao : ∀ o, o < 610 → G.1 o ≠ ao) (hy : plainName y.cls = true) (hn : (lg_sl av).length ≤ nL)
    (body : ∀ X : Cx, Go G ao cL (zAo G ao (xs X).heap.size) X b nL y.cls k → EO G ao cL X r σ' v' → (xc X).exceptionTable.toList = tableOf hh → ((xR X).cells = 1 ∧ (xR X).slots = 6) → JO l G ao cL (zAo G ao (xs X).heap.size) X nL σ v 0 0 0 (lv_args 0 av) []) : WO l G ao cL y b nL hh k av σ v r σ' v' := by
  intro sz
  refine va_MetW (cc := b) (maxL := nL) (ret := some .int) (hh := hh) hy rfl ?_
  intro p e s m args below meth c s₁ B hml hv
  obtain ⟨rfl, rfl, hP, hK, hX⟩ := hv
  have hts := atoms_spec (ws := .codeWith y b nL (some .int) hh :: TB) B.pre
  have h := body ⟨p, e, rmX k, s, m, av.toArray, below, meth, c, MQ below (zQo G ao cL r σ' v' s.heap.size) av.toArray s 1 6 (zAo G ao s.heap.size)⟩ ⟨B.exec, B.bytes, hml, findClass_of_methodNamed B.named, fun w hw => hts w (List.mem_cons_of_mem _ hw), B.notSynchronized, ⟨Nat.le_refl _, Nat.le_refl _⟩, hK, hG, hX, ⟨fun o ho => ⟨Or.inl (Or.inl ⟨o, ho, rfl⟩), hao o ho⟩, Or.inr rfl, fun q hq => Or.inl (Or.inr hq)⟩⟩ ⟨B.returns, rfl⟩ (vx_table (x := y) B (hts _ List.mem_cons_self)) ⟨rfl, rfl⟩ s.heap [] _ hP va_S.rf (lv_entry av hn)
  rw [lg_entry_eq]
  exact h
section JOW
variable {l : Launch} {G : Gz} {ao : Nat} {cL : ClassId} {A : Nat → Prop} {X : Cx} {b : ByteArray} {nL k pc : Nat} {own : String} {σ σ' : St} {w9 v' : Int64} {c9 n9 : Nat} {ls ls' : List (Nat × Value)} {st : List Value}
theorem jo_oret (hx : Go G ao cL (zAo G ao (xs X).heap.size) X b nL own k) {r v : Int32} (hq : EO G ao cL X r σ' v') (d : decode b pc = .ok (.ireturn, 1)) (hr : v = r) (hs : σ = σ') (hv : w9 = v') : JO l G ao cL (zAo G ao (xs X).heap.size) X nL σ w9 1 6 pc ls [.int v] := by
  intro H locs la hp hS hl
  subst hr; subst hs; subst hv
  rw [hq.2]
  exact W.zret (v := v) hx.1 hx.2.1 hq.1 rfl (fun t ht hW => ⟨⟨v, (σ, w9), rfl, ⟨rfl, rfl⟩, by show va_P G.2.1 zcl (zwo G σ ao cL w9) t.heap; rw [ht]; exact hp⟩, hS.F ht⟩) hS.2.2 d hx.2.2.2.2.2.1
theorem zoBo {H : Heap} {locs : List Loc} (hx : Go G ao cL A X b nL own k) (hp : va_P G.2.1 zcl (zwo G σ ao cL w9) H) (hs : va_S A (xs X).heap H locs) {U : State} (hU : U.heap = H) (hW : (xs X).WarmedH U.vm) : zBo G ao cL σ w9 H.size U := by
  obtain ⟨h1, h2, h3, h4, h5, h6, h7, h8, h9, h10, h11⟩ := hx
  refine ⟨by rw [hU], by rw [hU]; exact hp, va_K.moved hW.alike h8, ?_⟩
  rw [hU]
  exact ((h10.kept hs.2.1).narrow (fun q hq => hq.elim (fun hq => hq.elim (fun ⟨o, ho, e⟩ => e ▸ (h11.1 o ho).1) (fun z => h11.2.2 q (Nat.le_trans hs.1 z))) (fun z => z ▸ h11.2.1))).warm hW
theorem zoAo {H : Heap} {locs : List Loc} (hx : Go G ao cL A X b nL own k) (hs : va_S A (xs X).heap H locs) : ∀ q, zAo G ao H.size q → A q := fun q hq => hq.elim (fun h => zoA hx hs q h) (fun z => z ▸ hx.2.2.2.2.2.2.2.2.2.2.2.1)
theorem goodW {y : MethodName} {own : String} {index nL' : Nat} {b' : ByteArray} {hh : List (Nat × Nat × Nat × Nat)} (t1 : Cond.codeWith y b' nL' (some .int) hh ∈ TB) (t2 : Cond.static y ∈ TB) (t3 : Cond.methodLink own index y ∈ TB) (t4 : Cond.initialized y.cls ∈ TB) : GoodIn TB (va_wsS own index y (.codeWith y b' nL' (some .int) hh :: TB)) := fun w hw => by
  rcases List.mem_append.mp hw with h | h
  · rcases List.mem_cons.mp h with h | h
    · rw [h]; exact good1 t3
    · rcases List.mem_cons.mp h with h | h
      · rw [h]; exact good1 t2
      · rw [List.mem_singleton.mp h]; exact good1 t4
  · rcases List.mem_cons.mp h with h | h
    · rw [h]; exact good1 t1
    · exact good1 h
/-- the law calls a wrapper -/
theorem jo_callW (hx : Go G ao cL A X b nL own k) {y : MethodName} {b' : ByteArray} {nL' n k' index : Nat} {hh : List (Nat × Nat × Nat × Nat)} {r : Int32} {As rest : List Value} (hM : WO l G ao cL y b' nL' hh k' As σ w9 r σ' v') (t1 : Cond.codeWith y b' nL' (some .int) hh ∈ TB) (t2 : Cond.static y ∈ TB) (t3 : Cond.methodLink own index y ∈ TB) (t4 : Cond.initialized y.cls ∈ TB) (mp : y.cls ≠ "java/lang/invoke/MethodHandle" ∧ y.cls ≠ "java/lang/invoke/VarHandle" ∧ (parseMethodDescriptor y.desc).map (fun d => d.parameters.length) = some n) (h41 : nL' ≤ 41) (hk : k' < k) (hn : As.length = n) (hst : st = As.reverse ++ rest) (hcat : (rest.map fun v => v.category).sum ≤ 8) (d : decode b pc = .ok (.invokestatic index, 3)) (hr : c9 + 1 ≤ (xR X).cells ∧ n9 + 6 ≤ (xR X).slots) (K : JO l G ao cL A X nL σ' v' (c9 + 1) (n9 + 6) (pc + 3) ls (.int r :: rest)) : JO l G ao cL A X nL σ w9 c9 n9 pc ls st := by
  intro H locs la hp hs hl
  have hps : PreS (xs X) H (va_Pc As (zBo G ao cL σ w9 H.size)) As := ⟨zBo_blind, fun U hU hW => ⟨rfl, zoBo hx hp hs hU hW⟩⟩
  refine va_calli (vx_runSW (zofix hx) (hM H.size) (vx_cwSW n hx.2.2.2.2.1 (goodW t1 t2 t3 t4) rfl rfl rfl mp (zroomX hx.2.2.2.2.2.2.1 hk h41)) hps rfl hn hl.1 hst (lv_room hcat) d hr) hs (fun q _ h => zoAo hx hs q h) (zoAo hx hs) (fun r' u t H1 locs1 ht hvm hw hB hz1 hk1 hS => ?_)
  obtain ⟨rfl, rfl⟩ := hw
  rw [ht] at hB
  exact K H1 locs1 la hB hS hl
end JOW
theorem pass_N {G : Gz} {ao : Nat} {cL : ClassId} {A : Nat → Prop} {X : Cx} {b : ByteArray} {nL k : Nat} {e : Nat} {h : Nat} (hx : Go G ao cL A X b nL "DonkeyLightLaw" k) : ∀ z ∈ [(⟨0, e, h, 31⟩ : ExceptionTableEntry)], z.catchType ≠ 0 ∧ ∃ nm : String, Cond.classLink "DonkeyLightLaw" z.catchType nm ∈ TB ∧ va_Nc xIAE nm (xs X) := fun z hz => by
  rw [List.mem_singleton.mp hz]
  exact ⟨show ¬ (31 : Nat) = 0 by decide, xNSE, t_979, hx.2.2.2.2.2.2.2.2.2.1.1.2.2.2⟩
abbrev y_L_coast : MethodName := ⟨"DonkeyLightLaw", "coast", "(LDonkeyLight;I[J)I"⟩
theorem wv_coast {l : Launch} {G : Gz} (hG : zI G) {ao : Nat} {cL : ClassId} (hao : ∀ o, o < 610 → G.1 o ≠ ao) {σ σ1 : St} {v : Int64} {r : Int32} {k : Nat} (p0 : Int32) (hM : MI l G y_DL_coast prog_1_method_3_code 2 .int k [.ref (G.1 0), .int p0] σ r σ1) : WO l G ao cL y_L_coast method_3_code 4 [(0, 9, 12, 13)] (k + 1) [.ref (G.1 0), .int p0, .ref ao] σ v 0 σ1 r.toInt64 := by
  refine WO.of hG hao (by decide) (Nat.le_of_ble_eq_true rfl) (fun X hx hq ht hr => ?_)
  refine JO.wide (c' := 1) (n' := 6) (by decide) (by decide) ?_
  refine jo_aload_n hx d_L_coast_0 rfl 2 rfl ?_
  refine jo_iconst (v := 0) hx d_L_coast_1 (by decide) ?_
  refine jo_aload_n hx d_L_coast_2 rfl 0 rfl ?_
  refine jo_iload_n hx d_L_coast_3 rfl 1 rfl ?_
  refine jo_callVi hx hM mo_DL_coast mv_DL_coast t_553 (Nat.lt_succ_self _) rfl (by decide) (sh_0 _ _) rfl rfl (Nat.le_of_ble_eq_true rfl) d_L_coast_4 ⟨Nat.le_of_eq hr.1.symm, Nat.le_of_eq hr.2.symm⟩ ?_
  refine jo_i2l hx d_L_coast_7 rfl ?_
  refine jo_last hx rfl d_L_coast_8 ?_
  refine jo_goto (tgt := 15) hx d_L_coast_9 (by decide) ?_
  refine jo_iconst (v := 0) hx d_L_coast_15 (by decide) ?_
  exact jo_oret hx hq d_L_coast_16 rfl rfl rfl
theorem wxI_coast {l : Launch} {G : Gz} (hG : zI G) {ao : Nat} {cL : ClassId} (hao : ∀ o, o < 610 → G.1 o ≠ ao) {σ σ1 : St} {v : Int64} {k : Nat} (p0 : Int32) (hM : MX l G y_DL_coast prog_1_method_3_code 2 (some .int) k [.ref (G.1 0), .int p0] σ xIAE σ1) : WO l G ao cL y_L_coast method_3_code 4 [(0, 9, 12, 13)] (k + 1) [.ref (G.1 0), .int p0, .ref ao] σ v 1 σ1 v := by
  refine WO.of hG hao (by decide) (Nat.le_of_ble_eq_true rfl) (fun X hx hq ht hr => ?_)
  refine jo_aload_n hx d_L_coast_0 rfl 2 rfl ?_
  refine jo_iconst (v := 0) hx d_L_coast_1 (by decide) ?_
  refine jo_aload_n hx d_L_coast_2 rfl 0 rfl ?_
  refine jo_iload_n hx d_L_coast_3 rfl 1 rfl ?_
  refine jo_catch hx hM mo_DL_coast mv_DL_coast t_553 (Nat.lt_succ_self _) rfl (by decide) (sh_0 _ _) rfl rfl (Nat.le_of_ble_eq_true rfl) d_L_coast_4 ⟨Nat.le_of_eq hr.1.symm, Nat.le_of_eq hr.2.symm⟩ [] ⟨0, 9, 12, 13⟩ [] (by rw [ht]; rfl) (fun z hz => nomatch hz) (by decide) (by decide) t_552 t_568 (fun q => ?_)
  refine jo_astore_n hx ((3, Value.ref q) :: [(0, .ref (G.1 0)), (1, .int p0), (2, .ref ao)]) d_L_coast_12 rfl (by decide) rfl ?_
  refine jo_iconst (v := 1) hx d_L_coast_13 (by decide) ?_
  exact jo_oret hx hq d_L_coast_14 rfl rfl rfl
abbrev y_L_law : MethodName := ⟨"DonkeyLightLaw", "law", "(LDonkeyLight;I[J)I"⟩
theorem wv_law {l : Launch} {G : Gz} (hG : zI G) {ao : Nat} {cL : ClassId} (hao : ∀ o, o < 610 → G.1 o ≠ ao) {σ σ1 : St} {v : Int64} {r : Int32} {k : Nat} (p0 : Int32) (hM : MI l G y_DL_law prog_1_method_4_code 2 .int k [.ref (G.1 0), .int p0] σ r σ1) : WO l G ao cL y_L_law method_4_code 4 [(0, 9, 12, 13)] (k + 1) [.ref (G.1 0), .int p0, .ref ao] σ v 0 σ1 r.toInt64 := by
  refine WO.of hG hao (by decide) (Nat.le_of_ble_eq_true rfl) (fun X hx hq ht hr => ?_)
  refine JO.wide (c' := 1) (n' := 6) (by decide) (by decide) ?_
  refine jo_aload_n hx d_L_law_0 rfl 2 rfl ?_
  refine jo_iconst (v := 0) hx d_L_law_1 (by decide) ?_
  refine jo_aload_n hx d_L_law_2 rfl 0 rfl ?_
  refine jo_iload_n hx d_L_law_3 rfl 1 rfl ?_
  refine jo_callVi hx hM mo_DL_law mv_DL_law t_787 (Nat.lt_succ_self _) rfl (by decide) (sh_0 _ _) rfl rfl (Nat.le_of_ble_eq_true rfl) d_L_law_4 ⟨Nat.le_of_eq hr.1.symm, Nat.le_of_eq hr.2.symm⟩ ?_
  refine jo_i2l hx d_L_law_7 rfl ?_
  refine jo_last hx rfl d_L_law_8 ?_
  refine jo_goto (tgt := 15) hx d_L_law_9 (by decide) ?_
  refine jo_iconst (v := 0) hx d_L_law_15 (by decide) ?_
  exact jo_oret hx hq d_L_law_16 rfl rfl rfl
theorem wxI_law {l : Launch} {G : Gz} (hG : zI G) {ao : Nat} {cL : ClassId} (hao : ∀ o, o < 610 → G.1 o ≠ ao) {σ σ1 : St} {v : Int64} {k : Nat} (p0 : Int32) (hM : MX l G y_DL_law prog_1_method_4_code 2 (some .int) k [.ref (G.1 0), .int p0] σ xIAE σ1) : WO l G ao cL y_L_law method_4_code 4 [(0, 9, 12, 13)] (k + 1) [.ref (G.1 0), .int p0, .ref ao] σ v 1 σ1 v := by
  refine WO.of hG hao (by decide) (Nat.le_of_ble_eq_true rfl) (fun X hx hq ht hr => ?_)
  refine jo_aload_n hx d_L_law_0 rfl 2 rfl ?_
  refine jo_iconst (v := 0) hx d_L_law_1 (by decide) ?_
  refine jo_aload_n hx d_L_law_2 rfl 0 rfl ?_
  refine jo_iload_n hx d_L_law_3 rfl 1 rfl ?_
  refine jo_catch hx hM mo_DL_law mv_DL_law t_787 (Nat.lt_succ_self _) rfl (by decide) (sh_0 _ _) rfl rfl (Nat.le_of_ble_eq_true rfl) d_L_law_4 ⟨Nat.le_of_eq hr.1.symm, Nat.le_of_eq hr.2.symm⟩ [] ⟨0, 9, 12, 13⟩ [] (by rw [ht]; rfl) (fun z hz => nomatch hz) (by decide) (by decide) t_552 t_568 (fun q => ?_)
  refine jo_astore_n hx ((3, Value.ref q) :: [(0, .ref (G.1 0)), (1, .int p0), (2, .ref ao)]) d_L_law_12 rfl (by decide) rfl ?_
  refine jo_iconst (v := 1) hx d_L_law_13 (by decide) ?_
  exact jo_oret hx hq d_L_law_14 rfl rfl rfl
abbrev y_L_work : MethodName := ⟨"DonkeyLightLaw", "work", "(LDonkeyLight;I[J)I"⟩
theorem wv_work {l : Launch} {G : Gz} (hG : zI G) {ao : Nat} {cL : ClassId} (hao : ∀ o, o < 610 → G.1 o ≠ ao) {σ σ1 : St} {v : Int64} {r : Int32} {k : Nat} (p0 : Int32) (hM : MI l G y_DL_work prog_1_method_5_code 2 .int k [.ref (G.1 0), .int p0] σ r σ1) : WO l G ao cL y_L_work method_5_code 4 [(0, 9, 12, 13)] (k + 1) [.ref (G.1 0), .int p0, .ref ao] σ v 0 σ1 r.toInt64 := by
  refine WO.of hG hao (by decide) (Nat.le_of_ble_eq_true rfl) (fun X hx hq ht hr => ?_)
  refine JO.wide (c' := 1) (n' := 6) (by decide) (by decide) ?_
  refine jo_aload_n hx d_L_work_0 rfl 2 rfl ?_
  refine jo_iconst (v := 0) hx d_L_work_1 (by decide) ?_
  refine jo_aload_n hx d_L_work_2 rfl 0 rfl ?_
  refine jo_iload_n hx d_L_work_3 rfl 1 rfl ?_
  refine jo_callVi hx hM mo_DL_work mv_DL_work t_827 (Nat.lt_succ_self _) rfl (by decide) (sh_0 _ _) rfl rfl (Nat.le_of_ble_eq_true rfl) d_L_work_4 ⟨Nat.le_of_eq hr.1.symm, Nat.le_of_eq hr.2.symm⟩ ?_
  refine jo_i2l hx d_L_work_7 rfl ?_
  refine jo_last hx rfl d_L_work_8 ?_
  refine jo_goto (tgt := 15) hx d_L_work_9 (by decide) ?_
  refine jo_iconst (v := 0) hx d_L_work_15 (by decide) ?_
  exact jo_oret hx hq d_L_work_16 rfl rfl rfl
theorem wxI_work {l : Launch} {G : Gz} (hG : zI G) {ao : Nat} {cL : ClassId} (hao : ∀ o, o < 610 → G.1 o ≠ ao) {σ σ1 : St} {v : Int64} {k : Nat} (p0 : Int32) (hM : MX l G y_DL_work prog_1_method_5_code 2 (some .int) k [.ref (G.1 0), .int p0] σ xIAE σ1) : WO l G ao cL y_L_work method_5_code 4 [(0, 9, 12, 13)] (k + 1) [.ref (G.1 0), .int p0, .ref ao] σ v 1 σ1 v := by
  refine WO.of hG hao (by decide) (Nat.le_of_ble_eq_true rfl) (fun X hx hq ht hr => ?_)
  refine jo_aload_n hx d_L_work_0 rfl 2 rfl ?_
  refine jo_iconst (v := 0) hx d_L_work_1 (by decide) ?_
  refine jo_aload_n hx d_L_work_2 rfl 0 rfl ?_
  refine jo_iload_n hx d_L_work_3 rfl 1 rfl ?_
  refine jo_catch hx hM mo_DL_work mv_DL_work t_827 (Nat.lt_succ_self _) rfl (by decide) (sh_0 _ _) rfl rfl (Nat.le_of_ble_eq_true rfl) d_L_work_4 ⟨Nat.le_of_eq hr.1.symm, Nat.le_of_eq hr.2.symm⟩ [] ⟨0, 9, 12, 13⟩ [] (by rw [ht]; rfl) (fun z hz => nomatch hz) (by decide) (by decide) t_552 t_568 (fun q => ?_)
  refine jo_astore_n hx ((3, Value.ref q) :: [(0, .ref (G.1 0)), (1, .int p0), (2, .ref ao)]) d_L_work_12 rfl (by decide) rfl ?_
  refine jo_iconst (v := 1) hx d_L_work_13 (by decide) ?_
  exact jo_oret hx hq d_L_work_14 rfl rfl rfl
abbrev y_L_log : MethodName := ⟨"DonkeyLightLaw", "log", "(LDonkeyLight;I[J)I"⟩
theorem wv_log {l : Launch} {G : Gz} (hG : zI G) {ao : Nat} {cL : ClassId} (hao : ∀ o, o < 610 → G.1 o ≠ ao) {σ σ1 : St} {v : Int64} {r : Int32} {k : Nat} (p0 : Int32) (hM : MI l G y_DL_log prog_1_method_6_code 2 .int k [.ref (G.1 0), .int p0] σ r σ1) : WO l G ao cL y_L_log method_6_code 4 [(0, 9, 12, 13)] (k + 1) [.ref (G.1 0), .int p0, .ref ao] σ v 0 σ1 r.toInt64 := by
  refine WO.of hG hao (by decide) (Nat.le_of_ble_eq_true rfl) (fun X hx hq ht hr => ?_)
  refine JO.wide (c' := 1) (n' := 6) (by decide) (by decide) ?_
  refine jo_aload_n hx d_L_log_0 rfl 2 rfl ?_
  refine jo_iconst (v := 0) hx d_L_log_1 (by decide) ?_
  refine jo_aload_n hx d_L_log_2 rfl 0 rfl ?_
  refine jo_iload_n hx d_L_log_3 rfl 1 rfl ?_
  refine jo_callVi hx hM mo_DL_log mv_DL_log t_938 (Nat.lt_succ_self _) rfl (by decide) (sh_0 _ _) rfl rfl (Nat.le_of_ble_eq_true rfl) d_L_log_4 ⟨Nat.le_of_eq hr.1.symm, Nat.le_of_eq hr.2.symm⟩ ?_
  refine jo_i2l hx d_L_log_7 rfl ?_
  refine jo_last hx rfl d_L_log_8 ?_
  refine jo_goto (tgt := 15) hx d_L_log_9 (by decide) ?_
  refine jo_iconst (v := 0) hx d_L_log_15 (by decide) ?_
  exact jo_oret hx hq d_L_log_16 rfl rfl rfl
theorem wxI_log {l : Launch} {G : Gz} (hG : zI G) {ao : Nat} {cL : ClassId} (hao : ∀ o, o < 610 → G.1 o ≠ ao) {σ σ1 : St} {v : Int64} {k : Nat} (p0 : Int32) (hM : MX l G y_DL_log prog_1_method_6_code 2 (some .int) k [.ref (G.1 0), .int p0] σ xIAE σ1) : WO l G ao cL y_L_log method_6_code 4 [(0, 9, 12, 13)] (k + 1) [.ref (G.1 0), .int p0, .ref ao] σ v 1 σ1 v := by
  refine WO.of hG hao (by decide) (Nat.le_of_ble_eq_true rfl) (fun X hx hq ht hr => ?_)
  refine jo_aload_n hx d_L_log_0 rfl 2 rfl ?_
  refine jo_iconst (v := 0) hx d_L_log_1 (by decide) ?_
  refine jo_aload_n hx d_L_log_2 rfl 0 rfl ?_
  refine jo_iload_n hx d_L_log_3 rfl 1 rfl ?_
  refine jo_catch hx hM mo_DL_log mv_DL_log t_938 (Nat.lt_succ_self _) rfl (by decide) (sh_0 _ _) rfl rfl (Nat.le_of_ble_eq_true rfl) d_L_log_4 ⟨Nat.le_of_eq hr.1.symm, Nat.le_of_eq hr.2.symm⟩ [] ⟨0, 9, 12, 13⟩ [] (by rw [ht]; rfl) (fun z hz => nomatch hz) (by decide) (by decide) t_552 t_568 (fun q => ?_)
  refine jo_astore_n hx ((3, Value.ref q) :: [(0, .ref (G.1 0)), (1, .int p0), (2, .ref ao)]) d_L_log_12 rfl (by decide) rfl ?_
  refine jo_iconst (v := 1) hx d_L_log_13 (by decide) ?_
  exact jo_oret hx hq d_L_log_14 rfl rfl rfl
abbrev y_L_told : MethodName := ⟨"DonkeyLightLaw", "told", "(LDonkeyLight;I[J)I"⟩
theorem wv_told {l : Launch} {G : Gz} (hG : zI G) {ao : Nat} {cL : ClassId} (hao : ∀ o, o < 610 → G.1 o ≠ ao) {σ σ1 : St} {v : Int64} {r : Int32} {k : Nat} (p0 : Int32) (hM : MI l G y_DL_told prog_1_method_9_code 2 .int k [.ref (G.1 0), .int p0] σ r σ1) : WO l G ao cL y_L_told method_7_code 4 [(0, 9, 12, 13)] (k + 1) [.ref (G.1 0), .int p0, .ref ao] σ v 0 σ1 r.toInt64 := by
  refine WO.of hG hao (by decide) (Nat.le_of_ble_eq_true rfl) (fun X hx hq ht hr => ?_)
  refine JO.wide (c' := 1) (n' := 6) (by decide) (by decide) ?_
  refine jo_aload_n hx d_L_told_0 rfl 2 rfl ?_
  refine jo_iconst (v := 0) hx d_L_told_1 (by decide) ?_
  refine jo_aload_n hx d_L_told_2 rfl 0 rfl ?_
  refine jo_iload_n hx d_L_told_3 rfl 1 rfl ?_
  refine jo_callVi hx hM mo_DL_told mv_DL_told t_971 (Nat.lt_succ_self _) rfl (by decide) (sh_0 _ _) rfl rfl (Nat.le_of_ble_eq_true rfl) d_L_told_4 ⟨Nat.le_of_eq hr.1.symm, Nat.le_of_eq hr.2.symm⟩ ?_
  refine jo_i2l hx d_L_told_7 rfl ?_
  refine jo_last hx rfl d_L_told_8 ?_
  refine jo_goto (tgt := 15) hx d_L_told_9 (by decide) ?_
  refine jo_iconst (v := 0) hx d_L_told_15 (by decide) ?_
  exact jo_oret hx hq d_L_told_16 rfl rfl rfl
theorem wxI_told {l : Launch} {G : Gz} (hG : zI G) {ao : Nat} {cL : ClassId} (hao : ∀ o, o < 610 → G.1 o ≠ ao) {σ σ1 : St} {v : Int64} {k : Nat} (p0 : Int32) (hM : MX l G y_DL_told prog_1_method_9_code 2 (some .int) k [.ref (G.1 0), .int p0] σ xIAE σ1) : WO l G ao cL y_L_told method_7_code 4 [(0, 9, 12, 13)] (k + 1) [.ref (G.1 0), .int p0, .ref ao] σ v 1 σ1 v := by
  refine WO.of hG hao (by decide) (Nat.le_of_ble_eq_true rfl) (fun X hx hq ht hr => ?_)
  refine jo_aload_n hx d_L_told_0 rfl 2 rfl ?_
  refine jo_iconst (v := 0) hx d_L_told_1 (by decide) ?_
  refine jo_aload_n hx d_L_told_2 rfl 0 rfl ?_
  refine jo_iload_n hx d_L_told_3 rfl 1 rfl ?_
  refine jo_catch hx hM mo_DL_told mv_DL_told t_971 (Nat.lt_succ_self _) rfl (by decide) (sh_0 _ _) rfl rfl (Nat.le_of_ble_eq_true rfl) d_L_told_4 ⟨Nat.le_of_eq hr.1.symm, Nat.le_of_eq hr.2.symm⟩ [] ⟨0, 9, 12, 13⟩ [] (by rw [ht]; rfl) (fun z hz => nomatch hz) (by decide) (by decide) t_552 t_568 (fun q => ?_)
  refine jo_astore_n hx ((3, Value.ref q) :: [(0, .ref (G.1 0)), (1, .int p0), (2, .ref ao)]) d_L_told_12 rfl (by decide) rfl ?_
  refine jo_iconst (v := 1) hx d_L_told_13 (by decide) ?_
  exact jo_oret hx hq d_L_told_14 rfl rfl rfl
abbrev y_L_cell : MethodName := ⟨"DonkeyLightLaw", "cell", "(LDonkeyLight;II[J)I"⟩
theorem wv_cell {l : Launch} {G : Gz} (hG : zI G) {ao : Nat} {cL : ClassId} (hao : ∀ o, o < 610 → G.1 o ≠ ao) {σ σ1 : St} {v : Int64} {r : Int32} {k : Nat} (p0 : Int32) (p1 : Int32) (hM : MI l G y_DL_cell prog_1_method_10_code 3 .int k [.ref (G.1 0), .int p0, .int p1] σ r σ1) : WO l G ao cL y_L_cell method_8_code 5 [(0, 10, 13, 31), (0, 10, 17, 13)] (k + 1) [.ref (G.1 0), .int p0, .int p1, .ref ao] σ v 0 σ1 r.toInt64 := by
  refine WO.of hG hao (by decide) (Nat.le_of_ble_eq_true rfl) (fun X hx hq ht hr => ?_)
  refine JO.wide (c' := 1) (n' := 6) (by decide) (by decide) ?_
  refine jo_aload_n hx d_L_cell_0 rfl 3 rfl ?_
  refine jo_iconst (v := 0) hx d_L_cell_1 (by decide) ?_
  refine jo_aload_n hx d_L_cell_2 rfl 0 rfl ?_
  refine jo_iload_n hx d_L_cell_3 rfl 1 rfl ?_
  refine jo_iload_n hx d_L_cell_4 rfl 2 rfl ?_
  refine jo_callVi hx hM mo_DL_cell mv_DL_cell t_980 (Nat.lt_succ_self _) rfl (by decide) (sh_0 _ _) rfl rfl (Nat.le_of_ble_eq_true rfl) d_L_cell_5 ⟨Nat.le_of_eq hr.1.symm, Nat.le_of_eq hr.2.symm⟩ ?_
  refine jo_i2l hx d_L_cell_8 rfl ?_
  refine jo_last hx rfl d_L_cell_9 ?_
  refine jo_goto (tgt := 21) hx d_L_cell_10 (by decide) ?_
  refine jo_iconst (v := 0) hx d_L_cell_21 (by decide) ?_
  exact jo_oret hx hq d_L_cell_22 rfl rfl rfl
theorem wxN_cell {l : Launch} {G : Gz} (hG : zI G) {ao : Nat} {cL : ClassId} (hao : ∀ o, o < 610 → G.1 o ≠ ao) {σ σ1 : St} {v : Int64} {k : Nat} (p0 : Int32) (p1 : Int32) (hM : MX l G y_DL_cell prog_1_method_10_code 3 (some .int) k [.ref (G.1 0), .int p0, .int p1] σ xNSE σ1) : WO l G ao cL y_L_cell method_8_code 5 [(0, 10, 13, 31), (0, 10, 17, 13)] (k + 1) [.ref (G.1 0), .int p0, .int p1, .ref ao] σ v 1 σ1 v := by
  refine WO.of hG hao (by decide) (Nat.le_of_ble_eq_true rfl) (fun X hx hq ht hr => ?_)
  refine jo_aload_n hx d_L_cell_0 rfl 3 rfl ?_
  refine jo_iconst (v := 0) hx d_L_cell_1 (by decide) ?_
  refine jo_aload_n hx d_L_cell_2 rfl 0 rfl ?_
  refine jo_iload_n hx d_L_cell_3 rfl 1 rfl ?_
  refine jo_iload_n hx d_L_cell_4 rfl 2 rfl ?_
  refine jo_catch hx hM mo_DL_cell mv_DL_cell t_980 (Nat.lt_succ_self _) rfl (by decide) (sh_0 _ _) rfl rfl (Nat.le_of_ble_eq_true rfl) d_L_cell_5 ⟨Nat.le_of_eq hr.1.symm, Nat.le_of_eq hr.2.symm⟩ [] ⟨0, 10, 13, 31⟩ [⟨0, 10, 17, 13⟩] (by rw [ht]; rfl) (fun z hz => nomatch hz) (by decide) (by decide) t_979 t_990 (fun q => ?_)
  refine jo_astore hx ((4, Value.ref q) :: [(0, .ref (G.1 0)), (1, .int p0), (2, .int p1), (3, .ref ao)]) d_L_cell_13 (by decide) rfl ?_
  refine jo_iconst (v := 1) hx d_L_cell_15 (by decide) ?_
  exact jo_oret hx hq d_L_cell_16 rfl rfl rfl
theorem wxI_cell {l : Launch} {G : Gz} (hG : zI G) {ao : Nat} {cL : ClassId} (hao : ∀ o, o < 610 → G.1 o ≠ ao) {σ σ1 : St} {v : Int64} {k : Nat} (p0 : Int32) (p1 : Int32) (hM : MX l G y_DL_cell prog_1_method_10_code 3 (some .int) k [.ref (G.1 0), .int p0, .int p1] σ xIAE σ1) : WO l G ao cL y_L_cell method_8_code 5 [(0, 10, 13, 31), (0, 10, 17, 13)] (k + 1) [.ref (G.1 0), .int p0, .int p1, .ref ao] σ v 2 σ1 v := by
  refine WO.of hG hao (by decide) (Nat.le_of_ble_eq_true rfl) (fun X hx hq ht hr => ?_)
  refine jo_aload_n hx d_L_cell_0 rfl 3 rfl ?_
  refine jo_iconst (v := 0) hx d_L_cell_1 (by decide) ?_
  refine jo_aload_n hx d_L_cell_2 rfl 0 rfl ?_
  refine jo_iload_n hx d_L_cell_3 rfl 1 rfl ?_
  refine jo_iload_n hx d_L_cell_4 rfl 2 rfl ?_
  refine jo_catch hx hM mo_DL_cell mv_DL_cell t_980 (Nat.lt_succ_self _) rfl (by decide) (sh_0 _ _) rfl rfl (Nat.le_of_ble_eq_true rfl) d_L_cell_5 ⟨Nat.le_of_eq hr.1.symm, Nat.le_of_eq hr.2.symm⟩ [⟨0, 10, 13, 31⟩] ⟨0, 10, 17, 13⟩ [] (by rw [ht]; rfl) (pass_N hx) (by decide) (by decide) t_552 t_568 (fun q => ?_)
  refine jo_astore hx ((4, Value.ref q) :: [(0, .ref (G.1 0)), (1, .int p0), (2, .int p1), (3, .ref ao)]) d_L_cell_17 (by decide) rfl ?_
  refine jo_iconst (v := 2) hx d_L_cell_19 (by decide) ?_
  exact jo_oret hx hq d_L_cell_20 rfl rfl rfl
abbrev y_L_light : MethodName := ⟨"DonkeyLightLaw", "light", "(LDonkeyLight;II[J)I"⟩
theorem wv_light {l : Launch} {G : Gz} (hG : zI G) {ao : Nat} {cL : ClassId} (hao : ∀ o, o < 610 → G.1 o ≠ ao) {σ σ1 : St} {v : Int64} {r : Int32} {k : Nat} (p0 : Int32) (p1 : Int32) (hM : MI l G y_DL_light prog_1_method_11_code 3 .int k [.ref (G.1 0), .int p0, .int p1] σ r σ1) : WO l G ao cL y_L_light method_9_code 5 [(0, 10, 13, 31), (0, 10, 17, 13)] (k + 1) [.ref (G.1 0), .int p0, .int p1, .ref ao] σ v 0 σ1 r.toInt64 := by
  refine WO.of hG hao (by decide) (Nat.le_of_ble_eq_true rfl) (fun X hx hq ht hr => ?_)
  refine JO.wide (c' := 1) (n' := 6) (by decide) (by decide) ?_
  refine jo_aload_n hx d_L_light_0 rfl 3 rfl ?_
  refine jo_iconst (v := 0) hx d_L_light_1 (by decide) ?_
  refine jo_aload_n hx d_L_light_2 rfl 0 rfl ?_
  refine jo_iload_n hx d_L_light_3 rfl 1 rfl ?_
  refine jo_iload_n hx d_L_light_4 rfl 2 rfl ?_
  refine jo_callVi hx hM mo_DL_light mv_DL_light t_1015 (Nat.lt_succ_self _) rfl (by decide) (sh_0 _ _) rfl rfl (Nat.le_of_ble_eq_true rfl) d_L_light_5 ⟨Nat.le_of_eq hr.1.symm, Nat.le_of_eq hr.2.symm⟩ ?_
  refine jo_i2l hx d_L_light_8 rfl ?_
  refine jo_last hx rfl d_L_light_9 ?_
  refine jo_goto (tgt := 21) hx d_L_light_10 (by decide) ?_
  refine jo_iconst (v := 0) hx d_L_light_21 (by decide) ?_
  exact jo_oret hx hq d_L_light_22 rfl rfl rfl
theorem wxN_light {l : Launch} {G : Gz} (hG : zI G) {ao : Nat} {cL : ClassId} (hao : ∀ o, o < 610 → G.1 o ≠ ao) {σ σ1 : St} {v : Int64} {k : Nat} (p0 : Int32) (p1 : Int32) (hM : MX l G y_DL_light prog_1_method_11_code 3 (some .int) k [.ref (G.1 0), .int p0, .int p1] σ xNSE σ1) : WO l G ao cL y_L_light method_9_code 5 [(0, 10, 13, 31), (0, 10, 17, 13)] (k + 1) [.ref (G.1 0), .int p0, .int p1, .ref ao] σ v 1 σ1 v := by
  refine WO.of hG hao (by decide) (Nat.le_of_ble_eq_true rfl) (fun X hx hq ht hr => ?_)
  refine jo_aload_n hx d_L_light_0 rfl 3 rfl ?_
  refine jo_iconst (v := 0) hx d_L_light_1 (by decide) ?_
  refine jo_aload_n hx d_L_light_2 rfl 0 rfl ?_
  refine jo_iload_n hx d_L_light_3 rfl 1 rfl ?_
  refine jo_iload_n hx d_L_light_4 rfl 2 rfl ?_
  refine jo_catch hx hM mo_DL_light mv_DL_light t_1015 (Nat.lt_succ_self _) rfl (by decide) (sh_0 _ _) rfl rfl (Nat.le_of_ble_eq_true rfl) d_L_light_5 ⟨Nat.le_of_eq hr.1.symm, Nat.le_of_eq hr.2.symm⟩ [] ⟨0, 10, 13, 31⟩ [⟨0, 10, 17, 13⟩] (by rw [ht]; rfl) (fun z hz => nomatch hz) (by decide) (by decide) t_979 t_990 (fun q => ?_)
  refine jo_astore hx ((4, Value.ref q) :: [(0, .ref (G.1 0)), (1, .int p0), (2, .int p1), (3, .ref ao)]) d_L_light_13 (by decide) rfl ?_
  refine jo_iconst (v := 1) hx d_L_light_15 (by decide) ?_
  exact jo_oret hx hq d_L_light_16 rfl rfl rfl
theorem wxI_light {l : Launch} {G : Gz} (hG : zI G) {ao : Nat} {cL : ClassId} (hao : ∀ o, o < 610 → G.1 o ≠ ao) {σ σ1 : St} {v : Int64} {k : Nat} (p0 : Int32) (p1 : Int32) (hM : MX l G y_DL_light prog_1_method_11_code 3 (some .int) k [.ref (G.1 0), .int p0, .int p1] σ xIAE σ1) : WO l G ao cL y_L_light method_9_code 5 [(0, 10, 13, 31), (0, 10, 17, 13)] (k + 1) [.ref (G.1 0), .int p0, .int p1, .ref ao] σ v 2 σ1 v := by
  refine WO.of hG hao (by decide) (Nat.le_of_ble_eq_true rfl) (fun X hx hq ht hr => ?_)
  refine jo_aload_n hx d_L_light_0 rfl 3 rfl ?_
  refine jo_iconst (v := 0) hx d_L_light_1 (by decide) ?_
  refine jo_aload_n hx d_L_light_2 rfl 0 rfl ?_
  refine jo_iload_n hx d_L_light_3 rfl 1 rfl ?_
  refine jo_iload_n hx d_L_light_4 rfl 2 rfl ?_
  refine jo_catch hx hM mo_DL_light mv_DL_light t_1015 (Nat.lt_succ_self _) rfl (by decide) (sh_0 _ _) rfl rfl (Nat.le_of_ble_eq_true rfl) d_L_light_5 ⟨Nat.le_of_eq hr.1.symm, Nat.le_of_eq hr.2.symm⟩ [⟨0, 10, 13, 31⟩] ⟨0, 10, 17, 13⟩ [] (by rw [ht]; rfl) (pass_N hx) (by decide) (by decide) t_552 t_568 (fun q => ?_)
  refine jo_astore hx ((4, Value.ref q) :: [(0, .ref (G.1 0)), (1, .int p0), (2, .int p1), (3, .ref ao)]) d_L_light_17 (by decide) rfl ?_
  refine jo_iconst (v := 2) hx d_L_light_19 (by decide) ?_
  exact jo_oret hx hq d_L_light_20 rfl rfl rfl
abbrev y_L_donkey : MethodName := ⟨"DonkeyLightLaw", "donkey", "(LDonkeyLight;II[J)I"⟩
theorem wv_donkey {l : Launch} {G : Gz} (hG : zI G) {ao : Nat} {cL : ClassId} (hao : ∀ o, o < 610 → G.1 o ≠ ao) {σ σ1 : St} {v : Int64} {r : Int32} {k : Nat} (p0 : Int32) (p1 : Int32) (hM : MI l G y_DL_donkey prog_1_method_12_code 3 .int k [.ref (G.1 0), .int p0, .int p1] σ r σ1) : WO l G ao cL y_L_donkey method_10_code 5 [(0, 10, 13, 31), (0, 10, 17, 13)] (k + 1) [.ref (G.1 0), .int p0, .int p1, .ref ao] σ v 0 σ1 r.toInt64 := by
  refine WO.of hG hao (by decide) (Nat.le_of_ble_eq_true rfl) (fun X hx hq ht hr => ?_)
  refine JO.wide (c' := 1) (n' := 6) (by decide) (by decide) ?_
  refine jo_aload_n hx d_L_donkey_0 rfl 3 rfl ?_
  refine jo_iconst (v := 0) hx d_L_donkey_1 (by decide) ?_
  refine jo_aload_n hx d_L_donkey_2 rfl 0 rfl ?_
  refine jo_iload_n hx d_L_donkey_3 rfl 1 rfl ?_
  refine jo_iload_n hx d_L_donkey_4 rfl 2 rfl ?_
  refine jo_callVi hx hM mo_DL_donkey mv_DL_donkey t_1023 (Nat.lt_succ_self _) rfl (by decide) (sh_0 _ _) rfl rfl (Nat.le_of_ble_eq_true rfl) d_L_donkey_5 ⟨Nat.le_of_eq hr.1.symm, Nat.le_of_eq hr.2.symm⟩ ?_
  refine jo_i2l hx d_L_donkey_8 rfl ?_
  refine jo_last hx rfl d_L_donkey_9 ?_
  refine jo_goto (tgt := 21) hx d_L_donkey_10 (by decide) ?_
  refine jo_iconst (v := 0) hx d_L_donkey_21 (by decide) ?_
  exact jo_oret hx hq d_L_donkey_22 rfl rfl rfl
theorem wxN_donkey {l : Launch} {G : Gz} (hG : zI G) {ao : Nat} {cL : ClassId} (hao : ∀ o, o < 610 → G.1 o ≠ ao) {σ σ1 : St} {v : Int64} {k : Nat} (p0 : Int32) (p1 : Int32) (hM : MX l G y_DL_donkey prog_1_method_12_code 3 (some .int) k [.ref (G.1 0), .int p0, .int p1] σ xNSE σ1) : WO l G ao cL y_L_donkey method_10_code 5 [(0, 10, 13, 31), (0, 10, 17, 13)] (k + 1) [.ref (G.1 0), .int p0, .int p1, .ref ao] σ v 1 σ1 v := by
  refine WO.of hG hao (by decide) (Nat.le_of_ble_eq_true rfl) (fun X hx hq ht hr => ?_)
  refine jo_aload_n hx d_L_donkey_0 rfl 3 rfl ?_
  refine jo_iconst (v := 0) hx d_L_donkey_1 (by decide) ?_
  refine jo_aload_n hx d_L_donkey_2 rfl 0 rfl ?_
  refine jo_iload_n hx d_L_donkey_3 rfl 1 rfl ?_
  refine jo_iload_n hx d_L_donkey_4 rfl 2 rfl ?_
  refine jo_catch hx hM mo_DL_donkey mv_DL_donkey t_1023 (Nat.lt_succ_self _) rfl (by decide) (sh_0 _ _) rfl rfl (Nat.le_of_ble_eq_true rfl) d_L_donkey_5 ⟨Nat.le_of_eq hr.1.symm, Nat.le_of_eq hr.2.symm⟩ [] ⟨0, 10, 13, 31⟩ [⟨0, 10, 17, 13⟩] (by rw [ht]; rfl) (fun z hz => nomatch hz) (by decide) (by decide) t_979 t_990 (fun q => ?_)
  refine jo_astore hx ((4, Value.ref q) :: [(0, .ref (G.1 0)), (1, .int p0), (2, .int p1), (3, .ref ao)]) d_L_donkey_13 (by decide) rfl ?_
  refine jo_iconst (v := 1) hx d_L_donkey_15 (by decide) ?_
  exact jo_oret hx hq d_L_donkey_16 rfl rfl rfl
theorem wxI_donkey {l : Launch} {G : Gz} (hG : zI G) {ao : Nat} {cL : ClassId} (hao : ∀ o, o < 610 → G.1 o ≠ ao) {σ σ1 : St} {v : Int64} {k : Nat} (p0 : Int32) (p1 : Int32) (hM : MX l G y_DL_donkey prog_1_method_12_code 3 (some .int) k [.ref (G.1 0), .int p0, .int p1] σ xIAE σ1) : WO l G ao cL y_L_donkey method_10_code 5 [(0, 10, 13, 31), (0, 10, 17, 13)] (k + 1) [.ref (G.1 0), .int p0, .int p1, .ref ao] σ v 2 σ1 v := by
  refine WO.of hG hao (by decide) (Nat.le_of_ble_eq_true rfl) (fun X hx hq ht hr => ?_)
  refine jo_aload_n hx d_L_donkey_0 rfl 3 rfl ?_
  refine jo_iconst (v := 0) hx d_L_donkey_1 (by decide) ?_
  refine jo_aload_n hx d_L_donkey_2 rfl 0 rfl ?_
  refine jo_iload_n hx d_L_donkey_3 rfl 1 rfl ?_
  refine jo_iload_n hx d_L_donkey_4 rfl 2 rfl ?_
  refine jo_catch hx hM mo_DL_donkey mv_DL_donkey t_1023 (Nat.lt_succ_self _) rfl (by decide) (sh_0 _ _) rfl rfl (Nat.le_of_ble_eq_true rfl) d_L_donkey_5 ⟨Nat.le_of_eq hr.1.symm, Nat.le_of_eq hr.2.symm⟩ [⟨0, 10, 13, 31⟩] ⟨0, 10, 17, 13⟩ [] (by rw [ht]; rfl) (pass_N hx) (by decide) (by decide) t_552 t_568 (fun q => ?_)
  refine jo_astore hx ((4, Value.ref q) :: [(0, .ref (G.1 0)), (1, .int p0), (2, .int p1), (3, .ref ao)]) d_L_donkey_17 (by decide) rfl ?_
  refine jo_iconst (v := 2) hx d_L_donkey_19 (by decide) ?_
  exact jo_oret hx hq d_L_donkey_20 rfl rfl rfl
abbrev y_L_ship : MethodName := ⟨"DonkeyLightLaw", "ship", "(LDonkeyLight;II[J)I"⟩
theorem wv_ship {l : Launch} {G : Gz} (hG : zI G) {ao : Nat} {cL : ClassId} (hao : ∀ o, o < 610 → G.1 o ≠ ao) {σ σ1 : St} {v : Int64} {r : Int32} {k : Nat} (p0 : Int32) (p1 : Int32) (hM : MI l G y_DL_ship prog_1_method_13_code 3 .int k [.ref (G.1 0), .int p0, .int p1] σ r σ1) : WO l G ao cL y_L_ship method_11_code 5 [(0, 10, 13, 31), (0, 10, 17, 13)] (k + 1) [.ref (G.1 0), .int p0, .int p1, .ref ao] σ v 0 σ1 r.toInt64 := by
  refine WO.of hG hao (by decide) (Nat.le_of_ble_eq_true rfl) (fun X hx hq ht hr => ?_)
  refine JO.wide (c' := 1) (n' := 6) (by decide) (by decide) ?_
  refine jo_aload_n hx d_L_ship_0 rfl 3 rfl ?_
  refine jo_iconst (v := 0) hx d_L_ship_1 (by decide) ?_
  refine jo_aload_n hx d_L_ship_2 rfl 0 rfl ?_
  refine jo_iload_n hx d_L_ship_3 rfl 1 rfl ?_
  refine jo_iload_n hx d_L_ship_4 rfl 2 rfl ?_
  refine jo_callVi hx hM mo_DL_ship mv_DL_ship t_1030 (Nat.lt_succ_self _) rfl (by decide) (sh_0 _ _) rfl rfl (Nat.le_of_ble_eq_true rfl) d_L_ship_5 ⟨Nat.le_of_eq hr.1.symm, Nat.le_of_eq hr.2.symm⟩ ?_
  refine jo_i2l hx d_L_ship_8 rfl ?_
  refine jo_last hx rfl d_L_ship_9 ?_
  refine jo_goto (tgt := 21) hx d_L_ship_10 (by decide) ?_
  refine jo_iconst (v := 0) hx d_L_ship_21 (by decide) ?_
  exact jo_oret hx hq d_L_ship_22 rfl rfl rfl
theorem wxN_ship {l : Launch} {G : Gz} (hG : zI G) {ao : Nat} {cL : ClassId} (hao : ∀ o, o < 610 → G.1 o ≠ ao) {σ σ1 : St} {v : Int64} {k : Nat} (p0 : Int32) (p1 : Int32) (hM : MX l G y_DL_ship prog_1_method_13_code 3 (some .int) k [.ref (G.1 0), .int p0, .int p1] σ xNSE σ1) : WO l G ao cL y_L_ship method_11_code 5 [(0, 10, 13, 31), (0, 10, 17, 13)] (k + 1) [.ref (G.1 0), .int p0, .int p1, .ref ao] σ v 1 σ1 v := by
  refine WO.of hG hao (by decide) (Nat.le_of_ble_eq_true rfl) (fun X hx hq ht hr => ?_)
  refine jo_aload_n hx d_L_ship_0 rfl 3 rfl ?_
  refine jo_iconst (v := 0) hx d_L_ship_1 (by decide) ?_
  refine jo_aload_n hx d_L_ship_2 rfl 0 rfl ?_
  refine jo_iload_n hx d_L_ship_3 rfl 1 rfl ?_
  refine jo_iload_n hx d_L_ship_4 rfl 2 rfl ?_
  refine jo_catch hx hM mo_DL_ship mv_DL_ship t_1030 (Nat.lt_succ_self _) rfl (by decide) (sh_0 _ _) rfl rfl (Nat.le_of_ble_eq_true rfl) d_L_ship_5 ⟨Nat.le_of_eq hr.1.symm, Nat.le_of_eq hr.2.symm⟩ [] ⟨0, 10, 13, 31⟩ [⟨0, 10, 17, 13⟩] (by rw [ht]; rfl) (fun z hz => nomatch hz) (by decide) (by decide) t_979 t_990 (fun q => ?_)
  refine jo_astore hx ((4, Value.ref q) :: [(0, .ref (G.1 0)), (1, .int p0), (2, .int p1), (3, .ref ao)]) d_L_ship_13 (by decide) rfl ?_
  refine jo_iconst (v := 1) hx d_L_ship_15 (by decide) ?_
  exact jo_oret hx hq d_L_ship_16 rfl rfl rfl
theorem wxI_ship {l : Launch} {G : Gz} (hG : zI G) {ao : Nat} {cL : ClassId} (hao : ∀ o, o < 610 → G.1 o ≠ ao) {σ σ1 : St} {v : Int64} {k : Nat} (p0 : Int32) (p1 : Int32) (hM : MX l G y_DL_ship prog_1_method_13_code 3 (some .int) k [.ref (G.1 0), .int p0, .int p1] σ xIAE σ1) : WO l G ao cL y_L_ship method_11_code 5 [(0, 10, 13, 31), (0, 10, 17, 13)] (k + 1) [.ref (G.1 0), .int p0, .int p1, .ref ao] σ v 2 σ1 v := by
  refine WO.of hG hao (by decide) (Nat.le_of_ble_eq_true rfl) (fun X hx hq ht hr => ?_)
  refine jo_aload_n hx d_L_ship_0 rfl 3 rfl ?_
  refine jo_iconst (v := 0) hx d_L_ship_1 (by decide) ?_
  refine jo_aload_n hx d_L_ship_2 rfl 0 rfl ?_
  refine jo_iload_n hx d_L_ship_3 rfl 1 rfl ?_
  refine jo_iload_n hx d_L_ship_4 rfl 2 rfl ?_
  refine jo_catch hx hM mo_DL_ship mv_DL_ship t_1030 (Nat.lt_succ_self _) rfl (by decide) (sh_0 _ _) rfl rfl (Nat.le_of_ble_eq_true rfl) d_L_ship_5 ⟨Nat.le_of_eq hr.1.symm, Nat.le_of_eq hr.2.symm⟩ [⟨0, 10, 13, 31⟩] ⟨0, 10, 17, 13⟩ [] (by rw [ht]; rfl) (pass_N hx) (by decide) (by decide) t_552 t_568 (fun q => ?_)
  refine jo_astore hx ((4, Value.ref q) :: [(0, .ref (G.1 0)), (1, .int p0), (2, .int p1), (3, .ref ao)]) d_L_ship_17 (by decide) rfl ?_
  refine jo_iconst (v := 2) hx d_L_ship_19 (by decide) ?_
  exact jo_oret hx hq d_L_ship_20 rfl rfl rfl
abbrev y_L_seen : MethodName := ⟨"DonkeyLightLaw", "seen", "(LDonkeyLight;II[J)I"⟩
theorem wv_seen {l : Launch} {G : Gz} (hG : zI G) {ao : Nat} {cL : ClassId} (hao : ∀ o, o < 610 → G.1 o ≠ ao) {σ σ1 : St} {v : Int64} {r : Int32} {k : Nat} (p0 : Int32) (p1 : Int32) (hM : MI l G y_DL_seen prog_1_method_14_code 3 .int k [.ref (G.1 0), .int p0, .int p1] σ r σ1) : WO l G ao cL y_L_seen method_12_code 5 [(0, 10, 13, 31), (0, 10, 17, 13)] (k + 1) [.ref (G.1 0), .int p0, .int p1, .ref ao] σ v 0 σ1 r.toInt64 := by
  refine WO.of hG hao (by decide) (Nat.le_of_ble_eq_true rfl) (fun X hx hq ht hr => ?_)
  refine JO.wide (c' := 1) (n' := 6) (by decide) (by decide) ?_
  refine jo_aload_n hx d_L_seen_0 rfl 3 rfl ?_
  refine jo_iconst (v := 0) hx d_L_seen_1 (by decide) ?_
  refine jo_aload_n hx d_L_seen_2 rfl 0 rfl ?_
  refine jo_iload_n hx d_L_seen_3 rfl 1 rfl ?_
  refine jo_iload_n hx d_L_seen_4 rfl 2 rfl ?_
  refine jo_callVi hx hM mo_DL_seen mv_DL_seen t_1042 (Nat.lt_succ_self _) rfl (by decide) (sh_0 _ _) rfl rfl (Nat.le_of_ble_eq_true rfl) d_L_seen_5 ⟨Nat.le_of_eq hr.1.symm, Nat.le_of_eq hr.2.symm⟩ ?_
  refine jo_i2l hx d_L_seen_8 rfl ?_
  refine jo_last hx rfl d_L_seen_9 ?_
  refine jo_goto (tgt := 21) hx d_L_seen_10 (by decide) ?_
  refine jo_iconst (v := 0) hx d_L_seen_21 (by decide) ?_
  exact jo_oret hx hq d_L_seen_22 rfl rfl rfl
theorem wxN_seen {l : Launch} {G : Gz} (hG : zI G) {ao : Nat} {cL : ClassId} (hao : ∀ o, o < 610 → G.1 o ≠ ao) {σ σ1 : St} {v : Int64} {k : Nat} (p0 : Int32) (p1 : Int32) (hM : MX l G y_DL_seen prog_1_method_14_code 3 (some .int) k [.ref (G.1 0), .int p0, .int p1] σ xNSE σ1) : WO l G ao cL y_L_seen method_12_code 5 [(0, 10, 13, 31), (0, 10, 17, 13)] (k + 1) [.ref (G.1 0), .int p0, .int p1, .ref ao] σ v 1 σ1 v := by
  refine WO.of hG hao (by decide) (Nat.le_of_ble_eq_true rfl) (fun X hx hq ht hr => ?_)
  refine jo_aload_n hx d_L_seen_0 rfl 3 rfl ?_
  refine jo_iconst (v := 0) hx d_L_seen_1 (by decide) ?_
  refine jo_aload_n hx d_L_seen_2 rfl 0 rfl ?_
  refine jo_iload_n hx d_L_seen_3 rfl 1 rfl ?_
  refine jo_iload_n hx d_L_seen_4 rfl 2 rfl ?_
  refine jo_catch hx hM mo_DL_seen mv_DL_seen t_1042 (Nat.lt_succ_self _) rfl (by decide) (sh_0 _ _) rfl rfl (Nat.le_of_ble_eq_true rfl) d_L_seen_5 ⟨Nat.le_of_eq hr.1.symm, Nat.le_of_eq hr.2.symm⟩ [] ⟨0, 10, 13, 31⟩ [⟨0, 10, 17, 13⟩] (by rw [ht]; rfl) (fun z hz => nomatch hz) (by decide) (by decide) t_979 t_990 (fun q => ?_)
  refine jo_astore hx ((4, Value.ref q) :: [(0, .ref (G.1 0)), (1, .int p0), (2, .int p1), (3, .ref ao)]) d_L_seen_13 (by decide) rfl ?_
  refine jo_iconst (v := 1) hx d_L_seen_15 (by decide) ?_
  exact jo_oret hx hq d_L_seen_16 rfl rfl rfl
theorem wxI_seen {l : Launch} {G : Gz} (hG : zI G) {ao : Nat} {cL : ClassId} (hao : ∀ o, o < 610 → G.1 o ≠ ao) {σ σ1 : St} {v : Int64} {k : Nat} (p0 : Int32) (p1 : Int32) (hM : MX l G y_DL_seen prog_1_method_14_code 3 (some .int) k [.ref (G.1 0), .int p0, .int p1] σ xIAE σ1) : WO l G ao cL y_L_seen method_12_code 5 [(0, 10, 13, 31), (0, 10, 17, 13)] (k + 1) [.ref (G.1 0), .int p0, .int p1, .ref ao] σ v 2 σ1 v := by
  refine WO.of hG hao (by decide) (Nat.le_of_ble_eq_true rfl) (fun X hx hq ht hr => ?_)
  refine jo_aload_n hx d_L_seen_0 rfl 3 rfl ?_
  refine jo_iconst (v := 0) hx d_L_seen_1 (by decide) ?_
  refine jo_aload_n hx d_L_seen_2 rfl 0 rfl ?_
  refine jo_iload_n hx d_L_seen_3 rfl 1 rfl ?_
  refine jo_iload_n hx d_L_seen_4 rfl 2 rfl ?_
  refine jo_catch hx hM mo_DL_seen mv_DL_seen t_1042 (Nat.lt_succ_self _) rfl (by decide) (sh_0 _ _) rfl rfl (Nat.le_of_ble_eq_true rfl) d_L_seen_5 ⟨Nat.le_of_eq hr.1.symm, Nat.le_of_eq hr.2.symm⟩ [⟨0, 10, 13, 31⟩] ⟨0, 10, 17, 13⟩ [] (by rw [ht]; rfl) (pass_N hx) (by decide) (by decide) t_552 t_568 (fun q => ?_)
  refine jo_astore hx ((4, Value.ref q) :: [(0, .ref (G.1 0)), (1, .int p0), (2, .int p1), (3, .ref ao)]) d_L_seen_17 (by decide) rfl ?_
  refine jo_iconst (v := 2) hx d_L_seen_19 (by decide) ?_
  exact jo_oret hx hq d_L_seen_20 rfl rfl rfl
abbrev y_L_would : MethodName := ⟨"DonkeyLightLaw", "would", "(LDonkeyLight;IIIIIII[J)I"⟩
theorem wv_would {l : Launch} {G : Gz} (hG : zI G) {ao : Nat} {cL : ClassId} (hao : ∀ o, o < 610 → G.1 o ≠ ao) {σ σ1 : St} {v : Int64} {r : Int32} {k : Nat} (p0 : Int32) (p1 : Int32) (p2 : Int32) (p3 : Int32) (p4 : Int32) (p5 : Int32) (p6 : Int32) (hM : MI l G y_DL_would prog_1_method_15_code 8 .boolean k [.ref (G.1 0), .int p0, .int p1, .int p2, .int p3, .int p4, .int p5, .int p6] σ r σ1) : WO l G ao cL y_L_would method_13_code 10 [(0, 27, 30, 31), (0, 27, 34, 13)] (k + 1) [.ref (G.1 0), .int p0, .int p1, .int p2, .int p3, .int p4, .int p5, .int p6, .ref ao] σ v 0 σ1 (if r = 0 then 0 else 1) := by
  refine WO.of hG hao (by decide) (Nat.le_of_ble_eq_true rfl) (fun X hx hq ht hr => ?_)
  refine JO.wide (c' := 1) (n' := 6) (by decide) (by decide) ?_
  refine jo_aload hx d_L_would_0 8 rfl ?_
  refine jo_iconst (v := 0) hx d_L_would_2 (by decide) ?_
  refine jo_aload_n hx d_L_would_3 rfl 0 rfl ?_
  refine jo_iload_n hx d_L_would_4 rfl 1 rfl ?_
  refine jo_iload_n hx d_L_would_5 rfl 2 rfl ?_
  refine jo_iload_n hx d_L_would_6 rfl 3 rfl ?_
  refine jo_iload hx d_L_would_7 4 rfl ?_
  refine jo_iload hx d_L_would_9 5 rfl ?_
  refine jo_iload hx d_L_would_11 6 rfl ?_
  refine jo_iload hx d_L_would_13 7 rfl ?_
  refine jo_callVi hx hM mo_DL_would mv_DL_would t_1056 (Nat.lt_succ_self _) rfl (by decide) (sh_0 _ _) rfl rfl (Nat.le_of_ble_eq_true rfl) d_L_would_15 ⟨Nat.le_of_eq hr.1.symm, Nat.le_of_eq hr.2.symm⟩ ?_
  refine jo_if_eq (tgt := 25) hx d_L_would_18 (by decide) (fun h0 => ?_) (fun h0 => ?_)
  · refine jo_lconst (v := 0) hx d_L_would_25 (by decide) ?_
    refine jo_last hx rfl d_L_would_26 ?_
    refine jo_goto (tgt := 38) hx d_L_would_27 (by decide) ?_
    refine jo_iconst (v := 0) hx d_L_would_38 (by decide) ?_
    exact jo_oret hx hq d_L_would_39 rfl rfl (by rw [if_pos h0])
  · refine jo_lconst (v := 1) hx d_L_would_21 (by decide) ?_
    refine jo_goto (tgt := 26) hx d_L_would_22 (by decide) ?_
    refine jo_last hx rfl d_L_would_26 ?_
    refine jo_goto (tgt := 38) hx d_L_would_27 (by decide) ?_
    refine jo_iconst (v := 0) hx d_L_would_38 (by decide) ?_
    exact jo_oret hx hq d_L_would_39 rfl rfl (by rw [if_neg h0])
theorem wxN_would {l : Launch} {G : Gz} (hG : zI G) {ao : Nat} {cL : ClassId} (hao : ∀ o, o < 610 → G.1 o ≠ ao) {σ σ1 : St} {v : Int64} {k : Nat} (p0 : Int32) (p1 : Int32) (p2 : Int32) (p3 : Int32) (p4 : Int32) (p5 : Int32) (p6 : Int32) (hM : MX l G y_DL_would prog_1_method_15_code 8 (some .boolean) k [.ref (G.1 0), .int p0, .int p1, .int p2, .int p3, .int p4, .int p5, .int p6] σ xNSE σ1) : WO l G ao cL y_L_would method_13_code 10 [(0, 27, 30, 31), (0, 27, 34, 13)] (k + 1) [.ref (G.1 0), .int p0, .int p1, .int p2, .int p3, .int p4, .int p5, .int p6, .ref ao] σ v 1 σ1 v := by
  refine WO.of hG hao (by decide) (Nat.le_of_ble_eq_true rfl) (fun X hx hq ht hr => ?_)
  refine jo_aload hx d_L_would_0 8 rfl ?_
  refine jo_iconst (v := 0) hx d_L_would_2 (by decide) ?_
  refine jo_aload_n hx d_L_would_3 rfl 0 rfl ?_
  refine jo_iload_n hx d_L_would_4 rfl 1 rfl ?_
  refine jo_iload_n hx d_L_would_5 rfl 2 rfl ?_
  refine jo_iload_n hx d_L_would_6 rfl 3 rfl ?_
  refine jo_iload hx d_L_would_7 4 rfl ?_
  refine jo_iload hx d_L_would_9 5 rfl ?_
  refine jo_iload hx d_L_would_11 6 rfl ?_
  refine jo_iload hx d_L_would_13 7 rfl ?_
  refine jo_catch hx hM mo_DL_would mv_DL_would t_1056 (Nat.lt_succ_self _) rfl (by decide) (sh_0 _ _) rfl rfl (Nat.le_of_ble_eq_true rfl) d_L_would_15 ⟨Nat.le_of_eq hr.1.symm, Nat.le_of_eq hr.2.symm⟩ [] ⟨0, 27, 30, 31⟩ [⟨0, 27, 34, 13⟩] (by rw [ht]; rfl) (fun z hz => nomatch hz) (by decide) (by decide) t_979 t_990 (fun q => ?_)
  refine jo_astore hx ((9, Value.ref q) :: [(0, .ref (G.1 0)), (1, .int p0), (2, .int p1), (3, .int p2), (4, .int p3), (5, .int p4), (6, .int p5), (7, .int p6), (8, .ref ao)]) d_L_would_30 (by decide) rfl ?_
  refine jo_iconst (v := 1) hx d_L_would_32 (by decide) ?_
  exact jo_oret hx hq d_L_would_33 rfl rfl rfl
theorem wxI_would {l : Launch} {G : Gz} (hG : zI G) {ao : Nat} {cL : ClassId} (hao : ∀ o, o < 610 → G.1 o ≠ ao) {σ σ1 : St} {v : Int64} {k : Nat} (p0 : Int32) (p1 : Int32) (p2 : Int32) (p3 : Int32) (p4 : Int32) (p5 : Int32) (p6 : Int32) (hM : MX l G y_DL_would prog_1_method_15_code 8 (some .boolean) k [.ref (G.1 0), .int p0, .int p1, .int p2, .int p3, .int p4, .int p5, .int p6] σ xIAE σ1) : WO l G ao cL y_L_would method_13_code 10 [(0, 27, 30, 31), (0, 27, 34, 13)] (k + 1) [.ref (G.1 0), .int p0, .int p1, .int p2, .int p3, .int p4, .int p5, .int p6, .ref ao] σ v 2 σ1 v := by
  refine WO.of hG hao (by decide) (Nat.le_of_ble_eq_true rfl) (fun X hx hq ht hr => ?_)
  refine jo_aload hx d_L_would_0 8 rfl ?_
  refine jo_iconst (v := 0) hx d_L_would_2 (by decide) ?_
  refine jo_aload_n hx d_L_would_3 rfl 0 rfl ?_
  refine jo_iload_n hx d_L_would_4 rfl 1 rfl ?_
  refine jo_iload_n hx d_L_would_5 rfl 2 rfl ?_
  refine jo_iload_n hx d_L_would_6 rfl 3 rfl ?_
  refine jo_iload hx d_L_would_7 4 rfl ?_
  refine jo_iload hx d_L_would_9 5 rfl ?_
  refine jo_iload hx d_L_would_11 6 rfl ?_
  refine jo_iload hx d_L_would_13 7 rfl ?_
  refine jo_catch hx hM mo_DL_would mv_DL_would t_1056 (Nat.lt_succ_self _) rfl (by decide) (sh_0 _ _) rfl rfl (Nat.le_of_ble_eq_true rfl) d_L_would_15 ⟨Nat.le_of_eq hr.1.symm, Nat.le_of_eq hr.2.symm⟩ [⟨0, 27, 30, 31⟩] ⟨0, 27, 34, 13⟩ [] (by rw [ht]; rfl) (pass_N hx) (by decide) (by decide) t_552 t_568 (fun q => ?_)
  refine jo_astore hx ((9, Value.ref q) :: [(0, .ref (G.1 0)), (1, .int p0), (2, .int p1), (3, .int p2), (4, .int p3), (5, .int p4), (6, .int p5), (7, .int p6), (8, .ref ao)]) d_L_would_34 (by decide) rfl ?_
  refine jo_iconst (v := 2) hx d_L_would_36 (by decide) ?_
  exact jo_oret hx hq d_L_would_37 rfl rfl rfl
abbrev y_L_tried : MethodName := ⟨"DonkeyLightLaw", "tried", "(LDonkeyLight;II[J)I"⟩
theorem wv_tried {l : Launch} {G : Gz} (hG : zI G) {ao : Nat} {cL : ClassId} (hao : ∀ o, o < 610 → G.1 o ≠ ao) {σ σ1 : St} {v : Int64} {r : Int32} {k : Nat} (p0 : Int32) (p1 : Int32) (hM : MI l G y_DL_tried prog_1_method_16_code 4 .int k [.ref (G.1 0), .int p0, .int p1] σ r σ1) : WO l G ao cL y_L_tried method_14_code 5 [(0, 10, 13, 31), (0, 10, 17, 13)] (k + 1) [.ref (G.1 0), .int p0, .int p1, .ref ao] σ v 0 σ1 r.toInt64 := by
  refine WO.of hG hao (by decide) (Nat.le_of_ble_eq_true rfl) (fun X hx hq ht hr => ?_)
  refine JO.wide (c' := 1) (n' := 6) (by decide) (by decide) ?_
  refine jo_aload_n hx d_L_tried_0 rfl 3 rfl ?_
  refine jo_iconst (v := 0) hx d_L_tried_1 (by decide) ?_
  refine jo_aload_n hx d_L_tried_2 rfl 0 rfl ?_
  refine jo_iload_n hx d_L_tried_3 rfl 1 rfl ?_
  refine jo_iload_n hx d_L_tried_4 rfl 2 rfl ?_
  refine jo_callVi hx hM mo_DL_tried mv_DL_tried t_1066 (Nat.lt_succ_self _) rfl (by decide) (sh_0 _ _) rfl rfl (Nat.le_of_ble_eq_true rfl) d_L_tried_5 ⟨Nat.le_of_eq hr.1.symm, Nat.le_of_eq hr.2.symm⟩ ?_
  refine jo_i2l hx d_L_tried_8 rfl ?_
  refine jo_last hx rfl d_L_tried_9 ?_
  refine jo_goto (tgt := 21) hx d_L_tried_10 (by decide) ?_
  refine jo_iconst (v := 0) hx d_L_tried_21 (by decide) ?_
  exact jo_oret hx hq d_L_tried_22 rfl rfl rfl
theorem wxN_tried {l : Launch} {G : Gz} (hG : zI G) {ao : Nat} {cL : ClassId} (hao : ∀ o, o < 610 → G.1 o ≠ ao) {σ σ1 : St} {v : Int64} {k : Nat} (p0 : Int32) (p1 : Int32) (hM : MX l G y_DL_tried prog_1_method_16_code 4 (some .int) k [.ref (G.1 0), .int p0, .int p1] σ xNSE σ1) : WO l G ao cL y_L_tried method_14_code 5 [(0, 10, 13, 31), (0, 10, 17, 13)] (k + 1) [.ref (G.1 0), .int p0, .int p1, .ref ao] σ v 1 σ1 v := by
  refine WO.of hG hao (by decide) (Nat.le_of_ble_eq_true rfl) (fun X hx hq ht hr => ?_)
  refine jo_aload_n hx d_L_tried_0 rfl 3 rfl ?_
  refine jo_iconst (v := 0) hx d_L_tried_1 (by decide) ?_
  refine jo_aload_n hx d_L_tried_2 rfl 0 rfl ?_
  refine jo_iload_n hx d_L_tried_3 rfl 1 rfl ?_
  refine jo_iload_n hx d_L_tried_4 rfl 2 rfl ?_
  refine jo_catch hx hM mo_DL_tried mv_DL_tried t_1066 (Nat.lt_succ_self _) rfl (by decide) (sh_0 _ _) rfl rfl (Nat.le_of_ble_eq_true rfl) d_L_tried_5 ⟨Nat.le_of_eq hr.1.symm, Nat.le_of_eq hr.2.symm⟩ [] ⟨0, 10, 13, 31⟩ [⟨0, 10, 17, 13⟩] (by rw [ht]; rfl) (fun z hz => nomatch hz) (by decide) (by decide) t_979 t_990 (fun q => ?_)
  refine jo_astore hx ((4, Value.ref q) :: [(0, .ref (G.1 0)), (1, .int p0), (2, .int p1), (3, .ref ao)]) d_L_tried_13 (by decide) rfl ?_
  refine jo_iconst (v := 1) hx d_L_tried_15 (by decide) ?_
  exact jo_oret hx hq d_L_tried_16 rfl rfl rfl
theorem wxI_tried {l : Launch} {G : Gz} (hG : zI G) {ao : Nat} {cL : ClassId} (hao : ∀ o, o < 610 → G.1 o ≠ ao) {σ σ1 : St} {v : Int64} {k : Nat} (p0 : Int32) (p1 : Int32) (hM : MX l G y_DL_tried prog_1_method_16_code 4 (some .int) k [.ref (G.1 0), .int p0, .int p1] σ xIAE σ1) : WO l G ao cL y_L_tried method_14_code 5 [(0, 10, 13, 31), (0, 10, 17, 13)] (k + 1) [.ref (G.1 0), .int p0, .int p1, .ref ao] σ v 2 σ1 v := by
  refine WO.of hG hao (by decide) (Nat.le_of_ble_eq_true rfl) (fun X hx hq ht hr => ?_)
  refine jo_aload_n hx d_L_tried_0 rfl 3 rfl ?_
  refine jo_iconst (v := 0) hx d_L_tried_1 (by decide) ?_
  refine jo_aload_n hx d_L_tried_2 rfl 0 rfl ?_
  refine jo_iload_n hx d_L_tried_3 rfl 1 rfl ?_
  refine jo_iload_n hx d_L_tried_4 rfl 2 rfl ?_
  refine jo_catch hx hM mo_DL_tried mv_DL_tried t_1066 (Nat.lt_succ_self _) rfl (by decide) (sh_0 _ _) rfl rfl (Nat.le_of_ble_eq_true rfl) d_L_tried_5 ⟨Nat.le_of_eq hr.1.symm, Nat.le_of_eq hr.2.symm⟩ [⟨0, 10, 13, 31⟩] ⟨0, 10, 17, 13⟩ [] (by rw [ht]; rfl) (pass_N hx) (by decide) (by decide) t_552 t_568 (fun q => ?_)
  refine jo_astore hx ((4, Value.ref q) :: [(0, .ref (G.1 0)), (1, .int p0), (2, .int p1), (3, .ref ao)]) d_L_tried_17 (by decide) rfl ?_
  refine jo_iconst (v := 2) hx d_L_tried_19 (by decide) ?_
  exact jo_oret hx hq d_L_tried_20 rfl rfl rfl
abbrev y_L_put : MethodName := ⟨"DonkeyLightLaw", "put", "(LDonkeyLight;II[J)I"⟩
theorem wv_put {l : Launch} {G : Gz} (hG : zI G) {ao : Nat} {cL : ClassId} (hao : ∀ o, o < 610 → G.1 o ≠ ao) {σ σ1 : St} {v : Int64} {r : Int32} {k : Nat} (p0 : Int32) (p1 : Int32) (hM : MI l G y_DL_put prog_1_method_18_code 3 .int k [.ref (G.1 0), .int p0, .int p1] σ r σ1) : WO l G ao cL y_L_put method_15_code 5 [(0, 10, 13, 13)] (k + 1) [.ref (G.1 0), .int p0, .int p1, .ref ao] σ v 0 σ1 r.toInt64 := by
  refine WO.of hG hao (by decide) (Nat.le_of_ble_eq_true rfl) (fun X hx hq ht hr => ?_)
  refine JO.wide (c' := 1) (n' := 6) (by decide) (by decide) ?_
  refine jo_aload_n hx d_L_put_0 rfl 3 rfl ?_
  refine jo_iconst (v := 0) hx d_L_put_1 (by decide) ?_
  refine jo_aload_n hx d_L_put_2 rfl 0 rfl ?_
  refine jo_iload_n hx d_L_put_3 rfl 1 rfl ?_
  refine jo_iload_n hx d_L_put_4 rfl 2 rfl ?_
  refine jo_callVi hx hM mo_DL_put mv_DL_put t_1086 (Nat.lt_succ_self _) rfl (by decide) (sh_0 _ _) rfl rfl (Nat.le_of_ble_eq_true rfl) d_L_put_5 ⟨Nat.le_of_eq hr.1.symm, Nat.le_of_eq hr.2.symm⟩ ?_
  refine jo_i2l hx d_L_put_8 rfl ?_
  refine jo_last hx rfl d_L_put_9 ?_
  refine jo_goto (tgt := 17) hx d_L_put_10 (by decide) ?_
  refine jo_iconst (v := 0) hx d_L_put_17 (by decide) ?_
  exact jo_oret hx hq d_L_put_18 rfl rfl rfl
theorem wxI_put {l : Launch} {G : Gz} (hG : zI G) {ao : Nat} {cL : ClassId} (hao : ∀ o, o < 610 → G.1 o ≠ ao) {σ σ1 : St} {v : Int64} {k : Nat} (p0 : Int32) (p1 : Int32) (hM : MX l G y_DL_put prog_1_method_18_code 3 (some .int) k [.ref (G.1 0), .int p0, .int p1] σ xIAE σ1) : WO l G ao cL y_L_put method_15_code 5 [(0, 10, 13, 13)] (k + 1) [.ref (G.1 0), .int p0, .int p1, .ref ao] σ v 1 σ1 v := by
  refine WO.of hG hao (by decide) (Nat.le_of_ble_eq_true rfl) (fun X hx hq ht hr => ?_)
  refine jo_aload_n hx d_L_put_0 rfl 3 rfl ?_
  refine jo_iconst (v := 0) hx d_L_put_1 (by decide) ?_
  refine jo_aload_n hx d_L_put_2 rfl 0 rfl ?_
  refine jo_iload_n hx d_L_put_3 rfl 1 rfl ?_
  refine jo_iload_n hx d_L_put_4 rfl 2 rfl ?_
  refine jo_catch hx hM mo_DL_put mv_DL_put t_1086 (Nat.lt_succ_self _) rfl (by decide) (sh_0 _ _) rfl rfl (Nat.le_of_ble_eq_true rfl) d_L_put_5 ⟨Nat.le_of_eq hr.1.symm, Nat.le_of_eq hr.2.symm⟩ [] ⟨0, 10, 13, 13⟩ [] (by rw [ht]; rfl) (fun z hz => nomatch hz) (by decide) (by decide) t_552 t_568 (fun q => ?_)
  refine jo_astore hx ((4, Value.ref q) :: [(0, .ref (G.1 0)), (1, .int p0), (2, .int p1), (3, .ref ao)]) d_L_put_13 (by decide) rfl ?_
  refine jo_iconst (v := 1) hx d_L_put_15 (by decide) ?_
  exact jo_oret hx hq d_L_put_16 rfl rfl rfl
abbrev y_L_save : MethodName := ⟨"DonkeyLightLaw", "save", "(LDonkeyLight;I[J)I"⟩
theorem wv_save {l : Launch} {G : Gz} (hG : zI G) {ao : Nat} {cL : ClassId} (hao : ∀ o, o < 610 → G.1 o ≠ ao) {σ σ1 : St} {v : Int64} {r : Int32} {k : Nat} (p0 : Int32) (hM : MI l G y_DL_save prog_1_method_19_code 2 .int k [.ref (G.1 0), .int p0] σ r σ1) : WO l G ao cL y_L_save method_16_code 4 [(0, 9, 12, 13)] (k + 1) [.ref (G.1 0), .int p0, .ref ao] σ v 0 σ1 r.toInt64 := by
  refine WO.of hG hao (by decide) (Nat.le_of_ble_eq_true rfl) (fun X hx hq ht hr => ?_)
  refine JO.wide (c' := 1) (n' := 6) (by decide) (by decide) ?_
  refine jo_aload_n hx d_L_save_0 rfl 2 rfl ?_
  refine jo_iconst (v := 0) hx d_L_save_1 (by decide) ?_
  refine jo_aload_n hx d_L_save_2 rfl 0 rfl ?_
  refine jo_iload_n hx d_L_save_3 rfl 1 rfl ?_
  refine jo_callVi hx hM mo_DL_save mv_DL_save t_1144 (Nat.lt_succ_self _) rfl (by decide) (sh_0 _ _) rfl rfl (Nat.le_of_ble_eq_true rfl) d_L_save_4 ⟨Nat.le_of_eq hr.1.symm, Nat.le_of_eq hr.2.symm⟩ ?_
  refine jo_i2l hx d_L_save_7 rfl ?_
  refine jo_last hx rfl d_L_save_8 ?_
  refine jo_goto (tgt := 15) hx d_L_save_9 (by decide) ?_
  refine jo_iconst (v := 0) hx d_L_save_15 (by decide) ?_
  exact jo_oret hx hq d_L_save_16 rfl rfl rfl
theorem wxI_save {l : Launch} {G : Gz} (hG : zI G) {ao : Nat} {cL : ClassId} (hao : ∀ o, o < 610 → G.1 o ≠ ao) {σ σ1 : St} {v : Int64} {k : Nat} (p0 : Int32) (hM : MX l G y_DL_save prog_1_method_19_code 2 (some .int) k [.ref (G.1 0), .int p0] σ xIAE σ1) : WO l G ao cL y_L_save method_16_code 4 [(0, 9, 12, 13)] (k + 1) [.ref (G.1 0), .int p0, .ref ao] σ v 1 σ1 v := by
  refine WO.of hG hao (by decide) (Nat.le_of_ble_eq_true rfl) (fun X hx hq ht hr => ?_)
  refine jo_aload_n hx d_L_save_0 rfl 2 rfl ?_
  refine jo_iconst (v := 0) hx d_L_save_1 (by decide) ?_
  refine jo_aload_n hx d_L_save_2 rfl 0 rfl ?_
  refine jo_iload_n hx d_L_save_3 rfl 1 rfl ?_
  refine jo_catch hx hM mo_DL_save mv_DL_save t_1144 (Nat.lt_succ_self _) rfl (by decide) (sh_0 _ _) rfl rfl (Nat.le_of_ble_eq_true rfl) d_L_save_4 ⟨Nat.le_of_eq hr.1.symm, Nat.le_of_eq hr.2.symm⟩ [] ⟨0, 9, 12, 13⟩ [] (by rw [ht]; rfl) (fun z hz => nomatch hz) (by decide) (by decide) t_552 t_568 (fun q => ?_)
  refine jo_astore_n hx ((3, Value.ref q) :: [(0, .ref (G.1 0)), (1, .int p0), (2, .ref ao)]) d_L_save_12 rfl (by decide) rfl ?_
  refine jo_iconst (v := 1) hx d_L_save_13 (by decide) ?_
  exact jo_oret hx hq d_L_save_14 rfl rfl rfl
abbrev y_L_fits : MethodName := ⟨"DonkeyLightLaw", "fits", "(LDonkeyLight;I[J)I"⟩
theorem wv_fits {l : Launch} {G : Gz} (hG : zI G) {ao : Nat} {cL : ClassId} (hao : ∀ o, o < 610 → G.1 o ≠ ao) {σ σ1 : St} {v : Int64} {r : Int32} {k : Nat} (p0 : Int32) (hM : MI l G y_DL_fits prog_1_method_20_code 2 .int k [.ref (G.1 0), .int p0] σ r σ1) : WO l G ao cL y_L_fits method_17_code 4 [(0, 9, 12, 13)] (k + 1) [.ref (G.1 0), .int p0, .ref ao] σ v 0 σ1 r.toInt64 := by
  refine WO.of hG hao (by decide) (Nat.le_of_ble_eq_true rfl) (fun X hx hq ht hr => ?_)
  refine JO.wide (c' := 1) (n' := 6) (by decide) (by decide) ?_
  refine jo_aload_n hx d_L_fits_0 rfl 2 rfl ?_
  refine jo_iconst (v := 0) hx d_L_fits_1 (by decide) ?_
  refine jo_aload_n hx d_L_fits_2 rfl 0 rfl ?_
  refine jo_iload_n hx d_L_fits_3 rfl 1 rfl ?_
  refine jo_callVi hx hM mo_DL_fits mv_DL_fits t_1174 (Nat.lt_succ_self _) rfl (by decide) (sh_0 _ _) rfl rfl (Nat.le_of_ble_eq_true rfl) d_L_fits_4 ⟨Nat.le_of_eq hr.1.symm, Nat.le_of_eq hr.2.symm⟩ ?_
  refine jo_i2l hx d_L_fits_7 rfl ?_
  refine jo_last hx rfl d_L_fits_8 ?_
  refine jo_goto (tgt := 15) hx d_L_fits_9 (by decide) ?_
  refine jo_iconst (v := 0) hx d_L_fits_15 (by decide) ?_
  exact jo_oret hx hq d_L_fits_16 rfl rfl rfl
theorem wxI_fits {l : Launch} {G : Gz} (hG : zI G) {ao : Nat} {cL : ClassId} (hao : ∀ o, o < 610 → G.1 o ≠ ao) {σ σ1 : St} {v : Int64} {k : Nat} (p0 : Int32) (hM : MX l G y_DL_fits prog_1_method_20_code 2 (some .int) k [.ref (G.1 0), .int p0] σ xIAE σ1) : WO l G ao cL y_L_fits method_17_code 4 [(0, 9, 12, 13)] (k + 1) [.ref (G.1 0), .int p0, .ref ao] σ v 1 σ1 v := by
  refine WO.of hG hao (by decide) (Nat.le_of_ble_eq_true rfl) (fun X hx hq ht hr => ?_)
  refine jo_aload_n hx d_L_fits_0 rfl 2 rfl ?_
  refine jo_iconst (v := 0) hx d_L_fits_1 (by decide) ?_
  refine jo_aload_n hx d_L_fits_2 rfl 0 rfl ?_
  refine jo_iload_n hx d_L_fits_3 rfl 1 rfl ?_
  refine jo_catch hx hM mo_DL_fits mv_DL_fits t_1174 (Nat.lt_succ_self _) rfl (by decide) (sh_0 _ _) rfl rfl (Nat.le_of_ble_eq_true rfl) d_L_fits_4 ⟨Nat.le_of_eq hr.1.symm, Nat.le_of_eq hr.2.symm⟩ [] ⟨0, 9, 12, 13⟩ [] (by rw [ht]; rfl) (fun z hz => nomatch hz) (by decide) (by decide) t_552 t_568 (fun q => ?_)
  refine jo_astore_n hx ((3, Value.ref q) :: [(0, .ref (G.1 0)), (1, .int p0), (2, .ref ao)]) d_L_fits_12 rfl (by decide) rfl ?_
  refine jo_iconst (v := 1) hx d_L_fits_13 (by decide) ?_
  exact jo_oret hx hq d_L_fits_14 rfl rfl rfl
abbrev y_L_look : MethodName := ⟨"DonkeyLightLaw", "look", "(LDonkeyLight;I[J)I"⟩
theorem wv_look {l : Launch} {G : Gz} (hG : zI G) {ao : Nat} {cL : ClassId} (hao : ∀ o, o < 610 → G.1 o ≠ ao) {σ σ1 : St} {v : Int64} {r : Int32} {k : Nat} (p0 : Int32) (hM : MI l G y_DL_look prog_1_method_21_code 3 .int k [.ref (G.1 0), .int p0] σ r σ1) : WO l G ao cL y_L_look method_18_code 4 [(0, 9, 12, 13)] (k + 1) [.ref (G.1 0), .int p0, .ref ao] σ v 0 σ1 r.toInt64 := by
  refine WO.of hG hao (by decide) (Nat.le_of_ble_eq_true rfl) (fun X hx hq ht hr => ?_)
  refine JO.wide (c' := 1) (n' := 6) (by decide) (by decide) ?_
  refine jo_aload_n hx d_L_look_0 rfl 2 rfl ?_
  refine jo_iconst (v := 0) hx d_L_look_1 (by decide) ?_
  refine jo_aload_n hx d_L_look_2 rfl 0 rfl ?_
  refine jo_iload_n hx d_L_look_3 rfl 1 rfl ?_
  refine jo_callVi hx hM mo_DL_look mv_DL_look t_1194 (Nat.lt_succ_self _) rfl (by decide) (sh_0 _ _) rfl rfl (Nat.le_of_ble_eq_true rfl) d_L_look_4 ⟨Nat.le_of_eq hr.1.symm, Nat.le_of_eq hr.2.symm⟩ ?_
  refine jo_i2l hx d_L_look_7 rfl ?_
  refine jo_last hx rfl d_L_look_8 ?_
  refine jo_goto (tgt := 15) hx d_L_look_9 (by decide) ?_
  refine jo_iconst (v := 0) hx d_L_look_15 (by decide) ?_
  exact jo_oret hx hq d_L_look_16 rfl rfl rfl
theorem wxI_look {l : Launch} {G : Gz} (hG : zI G) {ao : Nat} {cL : ClassId} (hao : ∀ o, o < 610 → G.1 o ≠ ao) {σ σ1 : St} {v : Int64} {k : Nat} (p0 : Int32) (hM : MX l G y_DL_look prog_1_method_21_code 3 (some .int) k [.ref (G.1 0), .int p0] σ xIAE σ1) : WO l G ao cL y_L_look method_18_code 4 [(0, 9, 12, 13)] (k + 1) [.ref (G.1 0), .int p0, .ref ao] σ v 1 σ1 v := by
  refine WO.of hG hao (by decide) (Nat.le_of_ble_eq_true rfl) (fun X hx hq ht hr => ?_)
  refine jo_aload_n hx d_L_look_0 rfl 2 rfl ?_
  refine jo_iconst (v := 0) hx d_L_look_1 (by decide) ?_
  refine jo_aload_n hx d_L_look_2 rfl 0 rfl ?_
  refine jo_iload_n hx d_L_look_3 rfl 1 rfl ?_
  refine jo_catch hx hM mo_DL_look mv_DL_look t_1194 (Nat.lt_succ_self _) rfl (by decide) (sh_0 _ _) rfl rfl (Nat.le_of_ble_eq_true rfl) d_L_look_4 ⟨Nat.le_of_eq hr.1.symm, Nat.le_of_eq hr.2.symm⟩ [] ⟨0, 9, 12, 13⟩ [] (by rw [ht]; rfl) (fun z hz => nomatch hz) (by decide) (by decide) t_552 t_568 (fun q => ?_)
  refine jo_astore_n hx ((3, Value.ref q) :: [(0, .ref (G.1 0)), (1, .int p0), (2, .ref ao)]) d_L_look_12 rfl (by decide) rfl ?_
  refine jo_iconst (v := 1) hx d_L_look_13 (by decide) ?_
  exact jo_oret hx hq d_L_look_14 rfl rfl rfl
abbrev y_L_code : MethodName := ⟨"DonkeyLightLaw", "code", "(LDonkeyLight;II[J)I"⟩
theorem wv_code {l : Launch} {G : Gz} (hG : zI G) {ao : Nat} {cL : ClassId} (hao : ∀ o, o < 610 → G.1 o ≠ ao) {σ σ1 : St} {v : Int64} {r : Int32} {k : Nat} (p0 : Int32) (p1 : Int32) (hM : MI l G y_DL_code prog_1_method_22_code 3 .int k [.ref (G.1 0), .int p0, .int p1] σ r σ1) : WO l G ao cL y_L_code method_19_code 5 [(0, 10, 13, 13)] (k + 1) [.ref (G.1 0), .int p0, .int p1, .ref ao] σ v 0 σ1 r.toInt64 := by
  refine WO.of hG hao (by decide) (Nat.le_of_ble_eq_true rfl) (fun X hx hq ht hr => ?_)
  refine JO.wide (c' := 1) (n' := 6) (by decide) (by decide) ?_
  refine jo_aload_n hx d_L_code_0 rfl 3 rfl ?_
  refine jo_iconst (v := 0) hx d_L_code_1 (by decide) ?_
  refine jo_aload_n hx d_L_code_2 rfl 0 rfl ?_
  refine jo_iload_n hx d_L_code_3 rfl 1 rfl ?_
  refine jo_iload_n hx d_L_code_4 rfl 2 rfl ?_
  refine jo_callVi hx hM mo_DL_code mv_DL_code t_1211 (Nat.lt_succ_self _) rfl (by decide) (sh_0 _ _) rfl rfl (Nat.le_of_ble_eq_true rfl) d_L_code_5 ⟨Nat.le_of_eq hr.1.symm, Nat.le_of_eq hr.2.symm⟩ ?_
  refine jo_i2l hx d_L_code_8 rfl ?_
  refine jo_last hx rfl d_L_code_9 ?_
  refine jo_goto (tgt := 17) hx d_L_code_10 (by decide) ?_
  refine jo_iconst (v := 0) hx d_L_code_17 (by decide) ?_
  exact jo_oret hx hq d_L_code_18 rfl rfl rfl
theorem wxI_code {l : Launch} {G : Gz} (hG : zI G) {ao : Nat} {cL : ClassId} (hao : ∀ o, o < 610 → G.1 o ≠ ao) {σ σ1 : St} {v : Int64} {k : Nat} (p0 : Int32) (p1 : Int32) (hM : MX l G y_DL_code prog_1_method_22_code 3 (some .int) k [.ref (G.1 0), .int p0, .int p1] σ xIAE σ1) : WO l G ao cL y_L_code method_19_code 5 [(0, 10, 13, 13)] (k + 1) [.ref (G.1 0), .int p0, .int p1, .ref ao] σ v 1 σ1 v := by
  refine WO.of hG hao (by decide) (Nat.le_of_ble_eq_true rfl) (fun X hx hq ht hr => ?_)
  refine jo_aload_n hx d_L_code_0 rfl 3 rfl ?_
  refine jo_iconst (v := 0) hx d_L_code_1 (by decide) ?_
  refine jo_aload_n hx d_L_code_2 rfl 0 rfl ?_
  refine jo_iload_n hx d_L_code_3 rfl 1 rfl ?_
  refine jo_iload_n hx d_L_code_4 rfl 2 rfl ?_
  refine jo_catch hx hM mo_DL_code mv_DL_code t_1211 (Nat.lt_succ_self _) rfl (by decide) (sh_0 _ _) rfl rfl (Nat.le_of_ble_eq_true rfl) d_L_code_5 ⟨Nat.le_of_eq hr.1.symm, Nat.le_of_eq hr.2.symm⟩ [] ⟨0, 10, 13, 13⟩ [] (by rw [ht]; rfl) (fun z hz => nomatch hz) (by decide) (by decide) t_552 t_568 (fun q => ?_)
  refine jo_astore hx ((4, Value.ref q) :: [(0, .ref (G.1 0)), (1, .int p0), (2, .int p1), (3, .ref ao)]) d_L_code_13 (by decide) rfl ?_
  refine jo_iconst (v := 1) hx d_L_code_15 (by decide) ?_
  exact jo_oret hx hq d_L_code_16 rfl rfl rfl
abbrev y_L_wink : MethodName := ⟨"DonkeyLightLaw", "wink", "(LDonkeyLight;IIIIII[J)I"⟩
theorem wv_wink {l : Launch} {G : Gz} (hG : zI G) {ao : Nat} {cL : ClassId} (hao : ∀ o, o < 610 → G.1 o ≠ ao) {σ σ1 : St} {v : Int64} {r : Int64} {k : Nat} (p0 : Int32) (p1 : Int32) (p2 : Int32) (p3 : Int32) (p4 : Int32) (p5 : Int32) (hM : ML l G y_DL_wink prog_1_method_24_code 13 .long k [.ref (G.1 0), .int p0, .int p1, .int p2, .int p3, .int p4, .int p5] σ r σ1) : WO l G ao cL y_L_wink method_20_code 9 [(0, 17, 20, 13)] (k + 1) [.ref (G.1 0), .int p0, .int p1, .int p2, .int p3, .int p4, .int p5, .ref ao] σ v 0 σ1 r := by
  refine WO.of hG hao (by decide) (Nat.le_of_ble_eq_true rfl) (fun X hx hq ht hr => ?_)
  refine JO.wide (c' := 1) (n' := 6) (by decide) (by decide) ?_
  refine jo_aload hx d_L_wink_0 7 rfl ?_
  refine jo_iconst (v := 0) hx d_L_wink_2 (by decide) ?_
  refine jo_aload_n hx d_L_wink_3 rfl 0 rfl ?_
  refine jo_iload_n hx d_L_wink_4 rfl 1 rfl ?_
  refine jo_iload_n hx d_L_wink_5 rfl 2 rfl ?_
  refine jo_iload_n hx d_L_wink_6 rfl 3 rfl ?_
  refine jo_iload hx d_L_wink_7 4 rfl ?_
  refine jo_iload hx d_L_wink_9 5 rfl ?_
  refine jo_iload hx d_L_wink_11 6 rfl ?_
  refine jo_callVl hx hM mo_DL_wink mv_DL_wink t_1222 (Nat.lt_succ_self _) rfl (by decide) (sh_0 _ _) rfl rfl (Nat.le_of_ble_eq_true rfl) d_L_wink_13 ⟨Nat.le_of_eq hr.1.symm, Nat.le_of_eq hr.2.symm⟩ ?_
  refine jo_last hx rfl d_L_wink_16 ?_
  refine jo_goto (tgt := 24) hx d_L_wink_17 (by decide) ?_
  refine jo_iconst (v := 0) hx d_L_wink_24 (by decide) ?_
  exact jo_oret hx hq d_L_wink_25 rfl rfl rfl
theorem wxI_wink {l : Launch} {G : Gz} (hG : zI G) {ao : Nat} {cL : ClassId} (hao : ∀ o, o < 610 → G.1 o ≠ ao) {σ σ1 : St} {v : Int64} {k : Nat} (p0 : Int32) (p1 : Int32) (p2 : Int32) (p3 : Int32) (p4 : Int32) (p5 : Int32) (hM : MX l G y_DL_wink prog_1_method_24_code 13 (some .long) k [.ref (G.1 0), .int p0, .int p1, .int p2, .int p3, .int p4, .int p5] σ xIAE σ1) : WO l G ao cL y_L_wink method_20_code 9 [(0, 17, 20, 13)] (k + 1) [.ref (G.1 0), .int p0, .int p1, .int p2, .int p3, .int p4, .int p5, .ref ao] σ v 1 σ1 v := by
  refine WO.of hG hao (by decide) (Nat.le_of_ble_eq_true rfl) (fun X hx hq ht hr => ?_)
  refine jo_aload hx d_L_wink_0 7 rfl ?_
  refine jo_iconst (v := 0) hx d_L_wink_2 (by decide) ?_
  refine jo_aload_n hx d_L_wink_3 rfl 0 rfl ?_
  refine jo_iload_n hx d_L_wink_4 rfl 1 rfl ?_
  refine jo_iload_n hx d_L_wink_5 rfl 2 rfl ?_
  refine jo_iload_n hx d_L_wink_6 rfl 3 rfl ?_
  refine jo_iload hx d_L_wink_7 4 rfl ?_
  refine jo_iload hx d_L_wink_9 5 rfl ?_
  refine jo_iload hx d_L_wink_11 6 rfl ?_
  refine jo_catch hx hM mo_DL_wink mv_DL_wink t_1222 (Nat.lt_succ_self _) rfl (by decide) (sh_0 _ _) rfl rfl (Nat.le_of_ble_eq_true rfl) d_L_wink_13 ⟨Nat.le_of_eq hr.1.symm, Nat.le_of_eq hr.2.symm⟩ [] ⟨0, 17, 20, 13⟩ [] (by rw [ht]; rfl) (fun z hz => nomatch hz) (by decide) (by decide) t_552 t_568 (fun q => ?_)
  refine jo_astore hx ((8, Value.ref q) :: [(0, .ref (G.1 0)), (1, .int p0), (2, .int p1), (3, .int p2), (4, .int p3), (5, .int p4), (6, .int p5), (7, .ref ao)]) d_L_wink_20 (by decide) rfl ?_
  refine jo_iconst (v := 1) hx d_L_wink_22 (by decide) ?_
  exact jo_oret hx hq d_L_wink_23 rfl rfl rfl
abbrev y_L_carriers : MethodName := ⟨"DonkeyLightLaw", "carriers", "(LDonkeyLight;I[J)I"⟩
theorem wv_carriers {l : Launch} {G : Gz} (hG : zI G) {ao : Nat} {cL : ClassId} (hao : ∀ o, o < 610 → G.1 o ≠ ao) {σ σ1 : St} {v : Int64} {r : Int32} {k : Nat} (p0 : Int32) (hM : MI l G y_DL_carriers prog_1_method_25_code 3 .int k [.ref (G.1 0), .int p0] σ r σ1) : WO l G ao cL y_L_carriers method_21_code 4 [(0, 9, 12, 13)] (k + 1) [.ref (G.1 0), .int p0, .ref ao] σ v 0 σ1 r.toInt64 := by
  refine WO.of hG hao (by decide) (Nat.le_of_ble_eq_true rfl) (fun X hx hq ht hr => ?_)
  refine JO.wide (c' := 1) (n' := 6) (by decide) (by decide) ?_
  refine jo_aload_n hx d_L_carriers_0 rfl 2 rfl ?_
  refine jo_iconst (v := 0) hx d_L_carriers_1 (by decide) ?_
  refine jo_aload_n hx d_L_carriers_2 rfl 0 rfl ?_
  refine jo_iload_n hx d_L_carriers_3 rfl 1 rfl ?_
  refine jo_callVi hx hM mo_DL_carriers mv_DL_carriers t_1235 (Nat.lt_succ_self _) rfl (by decide) (sh_0 _ _) rfl rfl (Nat.le_of_ble_eq_true rfl) d_L_carriers_4 ⟨Nat.le_of_eq hr.1.symm, Nat.le_of_eq hr.2.symm⟩ ?_
  refine jo_i2l hx d_L_carriers_7 rfl ?_
  refine jo_last hx rfl d_L_carriers_8 ?_
  refine jo_goto (tgt := 15) hx d_L_carriers_9 (by decide) ?_
  refine jo_iconst (v := 0) hx d_L_carriers_15 (by decide) ?_
  exact jo_oret hx hq d_L_carriers_16 rfl rfl rfl
theorem wxI_carriers {l : Launch} {G : Gz} (hG : zI G) {ao : Nat} {cL : ClassId} (hao : ∀ o, o < 610 → G.1 o ≠ ao) {σ σ1 : St} {v : Int64} {k : Nat} (p0 : Int32) (hM : MX l G y_DL_carriers prog_1_method_25_code 3 (some .int) k [.ref (G.1 0), .int p0] σ xIAE σ1) : WO l G ao cL y_L_carriers method_21_code 4 [(0, 9, 12, 13)] (k + 1) [.ref (G.1 0), .int p0, .ref ao] σ v 1 σ1 v := by
  refine WO.of hG hao (by decide) (Nat.le_of_ble_eq_true rfl) (fun X hx hq ht hr => ?_)
  refine jo_aload_n hx d_L_carriers_0 rfl 2 rfl ?_
  refine jo_iconst (v := 0) hx d_L_carriers_1 (by decide) ?_
  refine jo_aload_n hx d_L_carriers_2 rfl 0 rfl ?_
  refine jo_iload_n hx d_L_carriers_3 rfl 1 rfl ?_
  refine jo_catch hx hM mo_DL_carriers mv_DL_carriers t_1235 (Nat.lt_succ_self _) rfl (by decide) (sh_0 _ _) rfl rfl (Nat.le_of_ble_eq_true rfl) d_L_carriers_4 ⟨Nat.le_of_eq hr.1.symm, Nat.le_of_eq hr.2.symm⟩ [] ⟨0, 9, 12, 13⟩ [] (by rw [ht]; rfl) (fun z hz => nomatch hz) (by decide) (by decide) t_552 t_568 (fun q => ?_)
  refine jo_astore_n hx ((3, Value.ref q) :: [(0, .ref (G.1 0)), (1, .int p0), (2, .ref ao)]) d_L_carriers_12 rfl (by decide) rfl ?_
  refine jo_iconst (v := 1) hx d_L_carriers_13 (by decide) ?_
  exact jo_oret hx hq d_L_carriers_14 rfl rfl rfl
abbrev y_L_share : MethodName := ⟨"DonkeyLightLaw", "share", "(LDonkeyLight;II[J)I"⟩
theorem wv_share {l : Launch} {G : Gz} (hG : zI G) {ao : Nat} {cL : ClassId} (hao : ∀ o, o < 610 → G.1 o ≠ ao) {σ σ1 : St} {v : Int64} {r : Int32} {k : Nat} (p0 : Int32) (p1 : Int32) (hM : MI l G y_DL_share prog_1_method_26_code 3 .int k [.ref (G.1 0), .int p0, .int p1] σ r σ1) : WO l G ao cL y_L_share method_22_code 5 [(0, 10, 13, 31), (0, 10, 17, 13)] (k + 1) [.ref (G.1 0), .int p0, .int p1, .ref ao] σ v 0 σ1 r.toInt64 := by
  refine WO.of hG hao (by decide) (Nat.le_of_ble_eq_true rfl) (fun X hx hq ht hr => ?_)
  refine JO.wide (c' := 1) (n' := 6) (by decide) (by decide) ?_
  refine jo_aload_n hx d_L_share_0 rfl 3 rfl ?_
  refine jo_iconst (v := 0) hx d_L_share_1 (by decide) ?_
  refine jo_aload_n hx d_L_share_2 rfl 0 rfl ?_
  refine jo_iload_n hx d_L_share_3 rfl 1 rfl ?_
  refine jo_iload_n hx d_L_share_4 rfl 2 rfl ?_
  refine jo_callVi hx hM mo_DL_share mv_DL_share t_1260 (Nat.lt_succ_self _) rfl (by decide) (sh_0 _ _) rfl rfl (Nat.le_of_ble_eq_true rfl) d_L_share_5 ⟨Nat.le_of_eq hr.1.symm, Nat.le_of_eq hr.2.symm⟩ ?_
  refine jo_i2l hx d_L_share_8 rfl ?_
  refine jo_last hx rfl d_L_share_9 ?_
  refine jo_goto (tgt := 21) hx d_L_share_10 (by decide) ?_
  refine jo_iconst (v := 0) hx d_L_share_21 (by decide) ?_
  exact jo_oret hx hq d_L_share_22 rfl rfl rfl
theorem wxN_share {l : Launch} {G : Gz} (hG : zI G) {ao : Nat} {cL : ClassId} (hao : ∀ o, o < 610 → G.1 o ≠ ao) {σ σ1 : St} {v : Int64} {k : Nat} (p0 : Int32) (p1 : Int32) (hM : MX l G y_DL_share prog_1_method_26_code 3 (some .int) k [.ref (G.1 0), .int p0, .int p1] σ xNSE σ1) : WO l G ao cL y_L_share method_22_code 5 [(0, 10, 13, 31), (0, 10, 17, 13)] (k + 1) [.ref (G.1 0), .int p0, .int p1, .ref ao] σ v 1 σ1 v := by
  refine WO.of hG hao (by decide) (Nat.le_of_ble_eq_true rfl) (fun X hx hq ht hr => ?_)
  refine jo_aload_n hx d_L_share_0 rfl 3 rfl ?_
  refine jo_iconst (v := 0) hx d_L_share_1 (by decide) ?_
  refine jo_aload_n hx d_L_share_2 rfl 0 rfl ?_
  refine jo_iload_n hx d_L_share_3 rfl 1 rfl ?_
  refine jo_iload_n hx d_L_share_4 rfl 2 rfl ?_
  refine jo_catch hx hM mo_DL_share mv_DL_share t_1260 (Nat.lt_succ_self _) rfl (by decide) (sh_0 _ _) rfl rfl (Nat.le_of_ble_eq_true rfl) d_L_share_5 ⟨Nat.le_of_eq hr.1.symm, Nat.le_of_eq hr.2.symm⟩ [] ⟨0, 10, 13, 31⟩ [⟨0, 10, 17, 13⟩] (by rw [ht]; rfl) (fun z hz => nomatch hz) (by decide) (by decide) t_979 t_990 (fun q => ?_)
  refine jo_astore hx ((4, Value.ref q) :: [(0, .ref (G.1 0)), (1, .int p0), (2, .int p1), (3, .ref ao)]) d_L_share_13 (by decide) rfl ?_
  refine jo_iconst (v := 1) hx d_L_share_15 (by decide) ?_
  exact jo_oret hx hq d_L_share_16 rfl rfl rfl
theorem wxI_share {l : Launch} {G : Gz} (hG : zI G) {ao : Nat} {cL : ClassId} (hao : ∀ o, o < 610 → G.1 o ≠ ao) {σ σ1 : St} {v : Int64} {k : Nat} (p0 : Int32) (p1 : Int32) (hM : MX l G y_DL_share prog_1_method_26_code 3 (some .int) k [.ref (G.1 0), .int p0, .int p1] σ xIAE σ1) : WO l G ao cL y_L_share method_22_code 5 [(0, 10, 13, 31), (0, 10, 17, 13)] (k + 1) [.ref (G.1 0), .int p0, .int p1, .ref ao] σ v 2 σ1 v := by
  refine WO.of hG hao (by decide) (Nat.le_of_ble_eq_true rfl) (fun X hx hq ht hr => ?_)
  refine jo_aload_n hx d_L_share_0 rfl 3 rfl ?_
  refine jo_iconst (v := 0) hx d_L_share_1 (by decide) ?_
  refine jo_aload_n hx d_L_share_2 rfl 0 rfl ?_
  refine jo_iload_n hx d_L_share_3 rfl 1 rfl ?_
  refine jo_iload_n hx d_L_share_4 rfl 2 rfl ?_
  refine jo_catch hx hM mo_DL_share mv_DL_share t_1260 (Nat.lt_succ_self _) rfl (by decide) (sh_0 _ _) rfl rfl (Nat.le_of_ble_eq_true rfl) d_L_share_5 ⟨Nat.le_of_eq hr.1.symm, Nat.le_of_eq hr.2.symm⟩ [⟨0, 10, 13, 31⟩] ⟨0, 10, 17, 13⟩ [] (by rw [ht]; rfl) (pass_N hx) (by decide) (by decide) t_552 t_568 (fun q => ?_)
  refine jo_astore hx ((4, Value.ref q) :: [(0, .ref (G.1 0)), (1, .int p0), (2, .int p1), (3, .ref ao)]) d_L_share_17 (by decide) rfl ?_
  refine jo_iconst (v := 2) hx d_L_share_19 (by decide) ?_
  exact jo_oret hx hq d_L_share_20 rfl rfl rfl
abbrev y_L_drawn : MethodName := ⟨"DonkeyLightLaw", "drawn", "(LDonkeyLight;I[J)I"⟩
theorem wv_drawn {l : Launch} {G : Gz} (hG : zI G) {ao : Nat} {cL : ClassId} (hao : ∀ o, o < 610 → G.1 o ≠ ao) {σ σ1 : St} {v : Int64} {r : Int32} {k : Nat} (p0 : Int32) (hM : MI l G y_DL_drawn prog_1_method_27_code 4 .int k [.ref (G.1 0), .int p0] σ r σ1) : WO l G ao cL y_L_drawn method_23_code 4 [(0, 9, 12, 31)] (k + 1) [.ref (G.1 0), .int p0, .ref ao] σ v 0 σ1 r.toInt64 := by
  refine WO.of hG hao (by decide) (Nat.le_of_ble_eq_true rfl) (fun X hx hq ht hr => ?_)
  refine JO.wide (c' := 1) (n' := 6) (by decide) (by decide) ?_
  refine jo_aload_n hx d_L_drawn_0 rfl 2 rfl ?_
  refine jo_iconst (v := 0) hx d_L_drawn_1 (by decide) ?_
  refine jo_aload_n hx d_L_drawn_2 rfl 0 rfl ?_
  refine jo_iload_n hx d_L_drawn_3 rfl 1 rfl ?_
  refine jo_callVi hx hM mo_DL_drawn mv_DL_drawn t_1273 (Nat.lt_succ_self _) rfl (by decide) (sh_0 _ _) rfl rfl (Nat.le_of_ble_eq_true rfl) d_L_drawn_4 ⟨Nat.le_of_eq hr.1.symm, Nat.le_of_eq hr.2.symm⟩ ?_
  refine jo_i2l hx d_L_drawn_7 rfl ?_
  refine jo_last hx rfl d_L_drawn_8 ?_
  refine jo_goto (tgt := 15) hx d_L_drawn_9 (by decide) ?_
  refine jo_iconst (v := 0) hx d_L_drawn_15 (by decide) ?_
  exact jo_oret hx hq d_L_drawn_16 rfl rfl rfl
theorem wxN_drawn {l : Launch} {G : Gz} (hG : zI G) {ao : Nat} {cL : ClassId} (hao : ∀ o, o < 610 → G.1 o ≠ ao) {σ σ1 : St} {v : Int64} {k : Nat} (p0 : Int32) (hM : MX l G y_DL_drawn prog_1_method_27_code 4 (some .int) k [.ref (G.1 0), .int p0] σ xNSE σ1) : WO l G ao cL y_L_drawn method_23_code 4 [(0, 9, 12, 31)] (k + 1) [.ref (G.1 0), .int p0, .ref ao] σ v 1 σ1 v := by
  refine WO.of hG hao (by decide) (Nat.le_of_ble_eq_true rfl) (fun X hx hq ht hr => ?_)
  refine jo_aload_n hx d_L_drawn_0 rfl 2 rfl ?_
  refine jo_iconst (v := 0) hx d_L_drawn_1 (by decide) ?_
  refine jo_aload_n hx d_L_drawn_2 rfl 0 rfl ?_
  refine jo_iload_n hx d_L_drawn_3 rfl 1 rfl ?_
  refine jo_catch hx hM mo_DL_drawn mv_DL_drawn t_1273 (Nat.lt_succ_self _) rfl (by decide) (sh_0 _ _) rfl rfl (Nat.le_of_ble_eq_true rfl) d_L_drawn_4 ⟨Nat.le_of_eq hr.1.symm, Nat.le_of_eq hr.2.symm⟩ [] ⟨0, 9, 12, 31⟩ [] (by rw [ht]; rfl) (fun z hz => nomatch hz) (by decide) (by decide) t_979 t_990 (fun q => ?_)
  refine jo_astore_n hx ((3, Value.ref q) :: [(0, .ref (G.1 0)), (1, .int p0), (2, .ref ao)]) d_L_drawn_12 rfl (by decide) rfl ?_
  refine jo_iconst (v := 1) hx d_L_drawn_13 (by decide) ?_
  exact jo_oret hx hq d_L_drawn_14 rfl rfl rfl
abbrev y_L_flash : MethodName := ⟨"DonkeyLightLaw", "flash", "(LDonkeyLight;II[J)I"⟩
theorem wv_flash {l : Launch} {G : Gz} (hG : zI G) {ao : Nat} {cL : ClassId} (hao : ∀ o, o < 610 → G.1 o ≠ ao) {σ σ1 : St} {v : Int64} {r : Int32} {k : Nat} (p0 : Int32) (p1 : Int32) (hM : MI l G y_DL_flash prog_1_method_28_code 5 .int k [.ref (G.1 0), .int p0, .int p1] σ r σ1) : WO l G ao cL y_L_flash method_24_code 5 [(0, 10, 13, 31), (0, 10, 17, 13)] (k + 1) [.ref (G.1 0), .int p0, .int p1, .ref ao] σ v 0 σ1 r.toInt64 := by
  refine WO.of hG hao (by decide) (Nat.le_of_ble_eq_true rfl) (fun X hx hq ht hr => ?_)
  refine JO.wide (c' := 1) (n' := 6) (by decide) (by decide) ?_
  refine jo_aload_n hx d_L_flash_0 rfl 3 rfl ?_
  refine jo_iconst (v := 0) hx d_L_flash_1 (by decide) ?_
  refine jo_aload_n hx d_L_flash_2 rfl 0 rfl ?_
  refine jo_iload_n hx d_L_flash_3 rfl 1 rfl ?_
  refine jo_iload_n hx d_L_flash_4 rfl 2 rfl ?_
  refine jo_callVi hx hM mo_DL_flash mv_DL_flash t_1281 (Nat.lt_succ_self _) rfl (by decide) (sh_0 _ _) rfl rfl (Nat.le_of_ble_eq_true rfl) d_L_flash_5 ⟨Nat.le_of_eq hr.1.symm, Nat.le_of_eq hr.2.symm⟩ ?_
  refine jo_i2l hx d_L_flash_8 rfl ?_
  refine jo_last hx rfl d_L_flash_9 ?_
  refine jo_goto (tgt := 21) hx d_L_flash_10 (by decide) ?_
  refine jo_iconst (v := 0) hx d_L_flash_21 (by decide) ?_
  exact jo_oret hx hq d_L_flash_22 rfl rfl rfl
theorem wxN_flash {l : Launch} {G : Gz} (hG : zI G) {ao : Nat} {cL : ClassId} (hao : ∀ o, o < 610 → G.1 o ≠ ao) {σ σ1 : St} {v : Int64} {k : Nat} (p0 : Int32) (p1 : Int32) (hM : MX l G y_DL_flash prog_1_method_28_code 5 (some .int) k [.ref (G.1 0), .int p0, .int p1] σ xNSE σ1) : WO l G ao cL y_L_flash method_24_code 5 [(0, 10, 13, 31), (0, 10, 17, 13)] (k + 1) [.ref (G.1 0), .int p0, .int p1, .ref ao] σ v 1 σ1 v := by
  refine WO.of hG hao (by decide) (Nat.le_of_ble_eq_true rfl) (fun X hx hq ht hr => ?_)
  refine jo_aload_n hx d_L_flash_0 rfl 3 rfl ?_
  refine jo_iconst (v := 0) hx d_L_flash_1 (by decide) ?_
  refine jo_aload_n hx d_L_flash_2 rfl 0 rfl ?_
  refine jo_iload_n hx d_L_flash_3 rfl 1 rfl ?_
  refine jo_iload_n hx d_L_flash_4 rfl 2 rfl ?_
  refine jo_catch hx hM mo_DL_flash mv_DL_flash t_1281 (Nat.lt_succ_self _) rfl (by decide) (sh_0 _ _) rfl rfl (Nat.le_of_ble_eq_true rfl) d_L_flash_5 ⟨Nat.le_of_eq hr.1.symm, Nat.le_of_eq hr.2.symm⟩ [] ⟨0, 10, 13, 31⟩ [⟨0, 10, 17, 13⟩] (by rw [ht]; rfl) (fun z hz => nomatch hz) (by decide) (by decide) t_979 t_990 (fun q => ?_)
  refine jo_astore hx ((4, Value.ref q) :: [(0, .ref (G.1 0)), (1, .int p0), (2, .int p1), (3, .ref ao)]) d_L_flash_13 (by decide) rfl ?_
  refine jo_iconst (v := 1) hx d_L_flash_15 (by decide) ?_
  exact jo_oret hx hq d_L_flash_16 rfl rfl rfl
theorem wxI_flash {l : Launch} {G : Gz} (hG : zI G) {ao : Nat} {cL : ClassId} (hao : ∀ o, o < 610 → G.1 o ≠ ao) {σ σ1 : St} {v : Int64} {k : Nat} (p0 : Int32) (p1 : Int32) (hM : MX l G y_DL_flash prog_1_method_28_code 5 (some .int) k [.ref (G.1 0), .int p0, .int p1] σ xIAE σ1) : WO l G ao cL y_L_flash method_24_code 5 [(0, 10, 13, 31), (0, 10, 17, 13)] (k + 1) [.ref (G.1 0), .int p0, .int p1, .ref ao] σ v 2 σ1 v := by
  refine WO.of hG hao (by decide) (Nat.le_of_ble_eq_true rfl) (fun X hx hq ht hr => ?_)
  refine jo_aload_n hx d_L_flash_0 rfl 3 rfl ?_
  refine jo_iconst (v := 0) hx d_L_flash_1 (by decide) ?_
  refine jo_aload_n hx d_L_flash_2 rfl 0 rfl ?_
  refine jo_iload_n hx d_L_flash_3 rfl 1 rfl ?_
  refine jo_iload_n hx d_L_flash_4 rfl 2 rfl ?_
  refine jo_catch hx hM mo_DL_flash mv_DL_flash t_1281 (Nat.lt_succ_self _) rfl (by decide) (sh_0 _ _) rfl rfl (Nat.le_of_ble_eq_true rfl) d_L_flash_5 ⟨Nat.le_of_eq hr.1.symm, Nat.le_of_eq hr.2.symm⟩ [⟨0, 10, 13, 31⟩] ⟨0, 10, 17, 13⟩ [] (by rw [ht]; rfl) (pass_N hx) (by decide) (by decide) t_552 t_568 (fun q => ?_)
  refine jo_astore hx ((4, Value.ref q) :: [(0, .ref (G.1 0)), (1, .int p0), (2, .int p1), (3, .ref ao)]) d_L_flash_17 (by decide) rfl ?_
  refine jo_iconst (v := 2) hx d_L_flash_19 (by decide) ?_
  exact jo_oret hx hq d_L_flash_20 rfl rfl rfl
abbrev y_L_alike : MethodName := ⟨"DonkeyLightLaw", "alike", "(LDonkeyLight;III[J)I"⟩
theorem wv_alike {l : Launch} {G : Gz} (hG : zI G) {ao : Nat} {cL : ClassId} (hao : ∀ o, o < 610 → G.1 o ≠ ao) {σ σ1 : St} {v : Int64} {r : Int32} {k : Nat} (p0 : Int32) (p1 : Int32) (p2 : Int32) (hM : MI l G y_DL_alike prog_1_method_29_code 8 .int k [.ref (G.1 0), .int p0, .int p1, .int p2] σ r σ1) : WO l G ao cL y_L_alike method_25_code 6 [(0, 12, 15, 31), (0, 12, 19, 13)] (k + 1) [.ref (G.1 0), .int p0, .int p1, .int p2, .ref ao] σ v 0 σ1 r.toInt64 := by
  refine WO.of hG hao (by decide) (Nat.le_of_ble_eq_true rfl) (fun X hx hq ht hr => ?_)
  refine JO.wide (c' := 1) (n' := 6) (by decide) (by decide) ?_
  refine jo_aload hx d_L_alike_0 4 rfl ?_
  refine jo_iconst (v := 0) hx d_L_alike_2 (by decide) ?_
  refine jo_aload_n hx d_L_alike_3 rfl 0 rfl ?_
  refine jo_iload_n hx d_L_alike_4 rfl 1 rfl ?_
  refine jo_iload_n hx d_L_alike_5 rfl 2 rfl ?_
  refine jo_iload_n hx d_L_alike_6 rfl 3 rfl ?_
  refine jo_callVi hx hM mo_DL_alike mv_DL_alike t_1289 (Nat.lt_succ_self _) rfl (by decide) (sh_0 _ _) rfl rfl (Nat.le_of_ble_eq_true rfl) d_L_alike_7 ⟨Nat.le_of_eq hr.1.symm, Nat.le_of_eq hr.2.symm⟩ ?_
  refine jo_i2l hx d_L_alike_10 rfl ?_
  refine jo_last hx rfl d_L_alike_11 ?_
  refine jo_goto (tgt := 23) hx d_L_alike_12 (by decide) ?_
  refine jo_iconst (v := 0) hx d_L_alike_23 (by decide) ?_
  exact jo_oret hx hq d_L_alike_24 rfl rfl rfl
theorem wxN_alike {l : Launch} {G : Gz} (hG : zI G) {ao : Nat} {cL : ClassId} (hao : ∀ o, o < 610 → G.1 o ≠ ao) {σ σ1 : St} {v : Int64} {k : Nat} (p0 : Int32) (p1 : Int32) (p2 : Int32) (hM : MX l G y_DL_alike prog_1_method_29_code 8 (some .int) k [.ref (G.1 0), .int p0, .int p1, .int p2] σ xNSE σ1) : WO l G ao cL y_L_alike method_25_code 6 [(0, 12, 15, 31), (0, 12, 19, 13)] (k + 1) [.ref (G.1 0), .int p0, .int p1, .int p2, .ref ao] σ v 1 σ1 v := by
  refine WO.of hG hao (by decide) (Nat.le_of_ble_eq_true rfl) (fun X hx hq ht hr => ?_)
  refine jo_aload hx d_L_alike_0 4 rfl ?_
  refine jo_iconst (v := 0) hx d_L_alike_2 (by decide) ?_
  refine jo_aload_n hx d_L_alike_3 rfl 0 rfl ?_
  refine jo_iload_n hx d_L_alike_4 rfl 1 rfl ?_
  refine jo_iload_n hx d_L_alike_5 rfl 2 rfl ?_
  refine jo_iload_n hx d_L_alike_6 rfl 3 rfl ?_
  refine jo_catch hx hM mo_DL_alike mv_DL_alike t_1289 (Nat.lt_succ_self _) rfl (by decide) (sh_0 _ _) rfl rfl (Nat.le_of_ble_eq_true rfl) d_L_alike_7 ⟨Nat.le_of_eq hr.1.symm, Nat.le_of_eq hr.2.symm⟩ [] ⟨0, 12, 15, 31⟩ [⟨0, 12, 19, 13⟩] (by rw [ht]; rfl) (fun z hz => nomatch hz) (by decide) (by decide) t_979 t_990 (fun q => ?_)
  refine jo_astore hx ((5, Value.ref q) :: [(0, .ref (G.1 0)), (1, .int p0), (2, .int p1), (3, .int p2), (4, .ref ao)]) d_L_alike_15 (by decide) rfl ?_
  refine jo_iconst (v := 1) hx d_L_alike_17 (by decide) ?_
  exact jo_oret hx hq d_L_alike_18 rfl rfl rfl
theorem wxI_alike {l : Launch} {G : Gz} (hG : zI G) {ao : Nat} {cL : ClassId} (hao : ∀ o, o < 610 → G.1 o ≠ ao) {σ σ1 : St} {v : Int64} {k : Nat} (p0 : Int32) (p1 : Int32) (p2 : Int32) (hM : MX l G y_DL_alike prog_1_method_29_code 8 (some .int) k [.ref (G.1 0), .int p0, .int p1, .int p2] σ xIAE σ1) : WO l G ao cL y_L_alike method_25_code 6 [(0, 12, 15, 31), (0, 12, 19, 13)] (k + 1) [.ref (G.1 0), .int p0, .int p1, .int p2, .ref ao] σ v 2 σ1 v := by
  refine WO.of hG hao (by decide) (Nat.le_of_ble_eq_true rfl) (fun X hx hq ht hr => ?_)
  refine jo_aload hx d_L_alike_0 4 rfl ?_
  refine jo_iconst (v := 0) hx d_L_alike_2 (by decide) ?_
  refine jo_aload_n hx d_L_alike_3 rfl 0 rfl ?_
  refine jo_iload_n hx d_L_alike_4 rfl 1 rfl ?_
  refine jo_iload_n hx d_L_alike_5 rfl 2 rfl ?_
  refine jo_iload_n hx d_L_alike_6 rfl 3 rfl ?_
  refine jo_catch hx hM mo_DL_alike mv_DL_alike t_1289 (Nat.lt_succ_self _) rfl (by decide) (sh_0 _ _) rfl rfl (Nat.le_of_ble_eq_true rfl) d_L_alike_7 ⟨Nat.le_of_eq hr.1.symm, Nat.le_of_eq hr.2.symm⟩ [⟨0, 12, 15, 31⟩] ⟨0, 12, 19, 13⟩ [] (by rw [ht]; rfl) (pass_N hx) (by decide) (by decide) t_552 t_568 (fun q => ?_)
  refine jo_astore hx ((5, Value.ref q) :: [(0, .ref (G.1 0)), (1, .int p0), (2, .int p1), (3, .int p2), (4, .ref ao)]) d_L_alike_19 (by decide) rfl ?_
  refine jo_iconst (v := 2) hx d_L_alike_21 (by decide) ?_
  exact jo_oret hx hq d_L_alike_22 rfl rfl rfl
abbrev y_L_blind : MethodName := ⟨"DonkeyLightLaw", "blind", "(LDonkeyLight;I[J)I"⟩
theorem wv_blind {l : Launch} {G : Gz} (hG : zI G) {ao : Nat} {cL : ClassId} (hao : ∀ o, o < 610 → G.1 o ≠ ao) {σ σ1 : St} {v : Int64} {r : Int32} {k : Nat} (p0 : Int32) (hM : MI l G y_DL_blind prog_1_method_30_code 2 .int k [.ref (G.1 0), .int p0] σ r σ1) : WO l G ao cL y_L_blind method_26_code 4 [(0, 9, 12, 31)] (k + 1) [.ref (G.1 0), .int p0, .ref ao] σ v 0 σ1 r.toInt64 := by
  refine WO.of hG hao (by decide) (Nat.le_of_ble_eq_true rfl) (fun X hx hq ht hr => ?_)
  refine JO.wide (c' := 1) (n' := 6) (by decide) (by decide) ?_
  refine jo_aload_n hx d_L_blind_0 rfl 2 rfl ?_
  refine jo_iconst (v := 0) hx d_L_blind_1 (by decide) ?_
  refine jo_aload_n hx d_L_blind_2 rfl 0 rfl ?_
  refine jo_iload_n hx d_L_blind_3 rfl 1 rfl ?_
  refine jo_callVi hx hM mo_DL_blind mv_DL_blind t_1297 (Nat.lt_succ_self _) rfl (by decide) (sh_0 _ _) rfl rfl (Nat.le_of_ble_eq_true rfl) d_L_blind_4 ⟨Nat.le_of_eq hr.1.symm, Nat.le_of_eq hr.2.symm⟩ ?_
  refine jo_i2l hx d_L_blind_7 rfl ?_
  refine jo_last hx rfl d_L_blind_8 ?_
  refine jo_goto (tgt := 15) hx d_L_blind_9 (by decide) ?_
  refine jo_iconst (v := 0) hx d_L_blind_15 (by decide) ?_
  exact jo_oret hx hq d_L_blind_16 rfl rfl rfl
theorem wxN_blind {l : Launch} {G : Gz} (hG : zI G) {ao : Nat} {cL : ClassId} (hao : ∀ o, o < 610 → G.1 o ≠ ao) {σ σ1 : St} {v : Int64} {k : Nat} (p0 : Int32) (hM : MX l G y_DL_blind prog_1_method_30_code 2 (some .int) k [.ref (G.1 0), .int p0] σ xNSE σ1) : WO l G ao cL y_L_blind method_26_code 4 [(0, 9, 12, 31)] (k + 1) [.ref (G.1 0), .int p0, .ref ao] σ v 1 σ1 v := by
  refine WO.of hG hao (by decide) (Nat.le_of_ble_eq_true rfl) (fun X hx hq ht hr => ?_)
  refine jo_aload_n hx d_L_blind_0 rfl 2 rfl ?_
  refine jo_iconst (v := 0) hx d_L_blind_1 (by decide) ?_
  refine jo_aload_n hx d_L_blind_2 rfl 0 rfl ?_
  refine jo_iload_n hx d_L_blind_3 rfl 1 rfl ?_
  refine jo_catch hx hM mo_DL_blind mv_DL_blind t_1297 (Nat.lt_succ_self _) rfl (by decide) (sh_0 _ _) rfl rfl (Nat.le_of_ble_eq_true rfl) d_L_blind_4 ⟨Nat.le_of_eq hr.1.symm, Nat.le_of_eq hr.2.symm⟩ [] ⟨0, 9, 12, 31⟩ [] (by rw [ht]; rfl) (fun z hz => nomatch hz) (by decide) (by decide) t_979 t_990 (fun q => ?_)
  refine jo_astore_n hx ((3, Value.ref q) :: [(0, .ref (G.1 0)), (1, .int p0), (2, .ref ao)]) d_L_blind_12 rfl (by decide) rfl ?_
  refine jo_iconst (v := 1) hx d_L_blind_13 (by decide) ?_
  exact jo_oret hx hq d_L_blind_14 rfl rfl rfl
abbrev y_L_reefs : MethodName := ⟨"DonkeyLightLaw", "reefs", "(LDonkeyLight;I[J)I"⟩
theorem wv_reefs {l : Launch} {G : Gz} (hG : zI G) {ao : Nat} {cL : ClassId} (hao : ∀ o, o < 610 → G.1 o ≠ ao) {σ σ1 : St} {v : Int64} {r : Int32} {k : Nat} (p0 : Int32) (hM : MI l G y_DL_reefs prog_1_method_31_code 3 .int k [.ref (G.1 0), .int p0] σ r σ1) : WO l G ao cL y_L_reefs method_27_code 4 [(0, 9, 12, 13)] (k + 1) [.ref (G.1 0), .int p0, .ref ao] σ v 0 σ1 r.toInt64 := by
  refine WO.of hG hao (by decide) (Nat.le_of_ble_eq_true rfl) (fun X hx hq ht hr => ?_)
  refine JO.wide (c' := 1) (n' := 6) (by decide) (by decide) ?_
  refine jo_aload_n hx d_L_reefs_0 rfl 2 rfl ?_
  refine jo_iconst (v := 0) hx d_L_reefs_1 (by decide) ?_
  refine jo_aload_n hx d_L_reefs_2 rfl 0 rfl ?_
  refine jo_iload_n hx d_L_reefs_3 rfl 1 rfl ?_
  refine jo_callVi hx hM mo_DL_reefs mv_DL_reefs t_1308 (Nat.lt_succ_self _) rfl (by decide) (sh_0 _ _) rfl rfl (Nat.le_of_ble_eq_true rfl) d_L_reefs_4 ⟨Nat.le_of_eq hr.1.symm, Nat.le_of_eq hr.2.symm⟩ ?_
  refine jo_i2l hx d_L_reefs_7 rfl ?_
  refine jo_last hx rfl d_L_reefs_8 ?_
  refine jo_goto (tgt := 15) hx d_L_reefs_9 (by decide) ?_
  refine jo_iconst (v := 0) hx d_L_reefs_15 (by decide) ?_
  exact jo_oret hx hq d_L_reefs_16 rfl rfl rfl
theorem wxI_reefs {l : Launch} {G : Gz} (hG : zI G) {ao : Nat} {cL : ClassId} (hao : ∀ o, o < 610 → G.1 o ≠ ao) {σ σ1 : St} {v : Int64} {k : Nat} (p0 : Int32) (hM : MX l G y_DL_reefs prog_1_method_31_code 3 (some .int) k [.ref (G.1 0), .int p0] σ xIAE σ1) : WO l G ao cL y_L_reefs method_27_code 4 [(0, 9, 12, 13)] (k + 1) [.ref (G.1 0), .int p0, .ref ao] σ v 1 σ1 v := by
  refine WO.of hG hao (by decide) (Nat.le_of_ble_eq_true rfl) (fun X hx hq ht hr => ?_)
  refine jo_aload_n hx d_L_reefs_0 rfl 2 rfl ?_
  refine jo_iconst (v := 0) hx d_L_reefs_1 (by decide) ?_
  refine jo_aload_n hx d_L_reefs_2 rfl 0 rfl ?_
  refine jo_iload_n hx d_L_reefs_3 rfl 1 rfl ?_
  refine jo_catch hx hM mo_DL_reefs mv_DL_reefs t_1308 (Nat.lt_succ_self _) rfl (by decide) (sh_0 _ _) rfl rfl (Nat.le_of_ble_eq_true rfl) d_L_reefs_4 ⟨Nat.le_of_eq hr.1.symm, Nat.le_of_eq hr.2.symm⟩ [] ⟨0, 9, 12, 13⟩ [] (by rw [ht]; rfl) (fun z hz => nomatch hz) (by decide) (by decide) t_552 t_568 (fun q => ?_)
  refine jo_astore_n hx ((3, Value.ref q) :: [(0, .ref (G.1 0)), (1, .int p0), (2, .ref ao)]) d_L_reefs_12 rfl (by decide) rfl ?_
  refine jo_iconst (v := 1) hx d_L_reefs_13 (by decide) ?_
  exact jo_oret hx hq d_L_reefs_14 rfl rfl rfl
abbrev y_L_brightest : MethodName := ⟨"DonkeyLightLaw", "brightest", "(LDonkeyLight;I[J)I"⟩
theorem wv_brightest {l : Launch} {G : Gz} (hG : zI G) {ao : Nat} {cL : ClassId} (hao : ∀ o, o < 610 → G.1 o ≠ ao) {σ σ1 : St} {v : Int64} {r : Int32} {k : Nat} (p0 : Int32) (hM : MI l G y_DL_brightest prog_1_method_32_code 6 .int k [.ref (G.1 0), .int p0] σ r σ1) : WO l G ao cL y_L_brightest method_28_code 4 [(0, 9, 12, 13)] (k + 1) [.ref (G.1 0), .int p0, .ref ao] σ v 0 σ1 r.toInt64 := by
  refine WO.of hG hao (by decide) (Nat.le_of_ble_eq_true rfl) (fun X hx hq ht hr => ?_)
  refine JO.wide (c' := 1) (n' := 6) (by decide) (by decide) ?_
  refine jo_aload_n hx d_L_brightest_0 rfl 2 rfl ?_
  refine jo_iconst (v := 0) hx d_L_brightest_1 (by decide) ?_
  refine jo_aload_n hx d_L_brightest_2 rfl 0 rfl ?_
  refine jo_iload_n hx d_L_brightest_3 rfl 1 rfl ?_
  refine jo_callVi hx hM mo_DL_brightest mv_DL_brightest t_1328 (Nat.lt_succ_self _) rfl (by decide) (sh_0 _ _) rfl rfl (Nat.le_of_ble_eq_true rfl) d_L_brightest_4 ⟨Nat.le_of_eq hr.1.symm, Nat.le_of_eq hr.2.symm⟩ ?_
  refine jo_i2l hx d_L_brightest_7 rfl ?_
  refine jo_last hx rfl d_L_brightest_8 ?_
  refine jo_goto (tgt := 15) hx d_L_brightest_9 (by decide) ?_
  refine jo_iconst (v := 0) hx d_L_brightest_15 (by decide) ?_
  exact jo_oret hx hq d_L_brightest_16 rfl rfl rfl
theorem wxI_brightest {l : Launch} {G : Gz} (hG : zI G) {ao : Nat} {cL : ClassId} (hao : ∀ o, o < 610 → G.1 o ≠ ao) {σ σ1 : St} {v : Int64} {k : Nat} (p0 : Int32) (hM : MX l G y_DL_brightest prog_1_method_32_code 6 (some .int) k [.ref (G.1 0), .int p0] σ xIAE σ1) : WO l G ao cL y_L_brightest method_28_code 4 [(0, 9, 12, 13)] (k + 1) [.ref (G.1 0), .int p0, .ref ao] σ v 1 σ1 v := by
  refine WO.of hG hao (by decide) (Nat.le_of_ble_eq_true rfl) (fun X hx hq ht hr => ?_)
  refine jo_aload_n hx d_L_brightest_0 rfl 2 rfl ?_
  refine jo_iconst (v := 0) hx d_L_brightest_1 (by decide) ?_
  refine jo_aload_n hx d_L_brightest_2 rfl 0 rfl ?_
  refine jo_iload_n hx d_L_brightest_3 rfl 1 rfl ?_
  refine jo_catch hx hM mo_DL_brightest mv_DL_brightest t_1328 (Nat.lt_succ_self _) rfl (by decide) (sh_0 _ _) rfl rfl (Nat.le_of_ble_eq_true rfl) d_L_brightest_4 ⟨Nat.le_of_eq hr.1.symm, Nat.le_of_eq hr.2.symm⟩ [] ⟨0, 9, 12, 13⟩ [] (by rw [ht]; rfl) (fun z hz => nomatch hz) (by decide) (by decide) t_552 t_568 (fun q => ?_)
  refine jo_astore_n hx ((3, Value.ref q) :: [(0, .ref (G.1 0)), (1, .int p0), (2, .ref ao)]) d_L_brightest_12 rfl (by decide) rfl ?_
  refine jo_iconst (v := 1) hx d_L_brightest_13 (by decide) ?_
  exact jo_oret hx hq d_L_brightest_14 rfl rfl rfl
abbrev y_L_wrecks : MethodName := ⟨"DonkeyLightLaw", "wrecks", "(LDonkeyLight;II[J)I"⟩
theorem wv_wrecks {l : Launch} {G : Gz} (hG : zI G) {ao : Nat} {cL : ClassId} (hao : ∀ o, o < 610 → G.1 o ≠ ao) {σ σ1 : St} {v : Int64} {r : Int32} {k : Nat} (p0 : Int32) (p1 : Int32) (hM : MI l G y_DL_wrecks prog_1_method_33_code 6 .int k [.ref (G.1 0), .int p0, .int p1] σ r σ1) : WO l G ao cL y_L_wrecks method_29_code 5 [(0, 10, 13, 13)] (k + 1) [.ref (G.1 0), .int p0, .int p1, .ref ao] σ v 0 σ1 r.toInt64 := by
  refine WO.of hG hao (by decide) (Nat.le_of_ble_eq_true rfl) (fun X hx hq ht hr => ?_)
  refine JO.wide (c' := 1) (n' := 6) (by decide) (by decide) ?_
  refine jo_aload_n hx d_L_wrecks_0 rfl 3 rfl ?_
  refine jo_iconst (v := 0) hx d_L_wrecks_1 (by decide) ?_
  refine jo_aload_n hx d_L_wrecks_2 rfl 0 rfl ?_
  refine jo_iload_n hx d_L_wrecks_3 rfl 1 rfl ?_
  refine jo_iload_n hx d_L_wrecks_4 rfl 2 rfl ?_
  refine jo_callVi hx hM mo_DL_wrecks mv_DL_wrecks t_1335 (Nat.lt_succ_self _) rfl (by decide) (sh_0 _ _) rfl rfl (Nat.le_of_ble_eq_true rfl) d_L_wrecks_5 ⟨Nat.le_of_eq hr.1.symm, Nat.le_of_eq hr.2.symm⟩ ?_
  refine jo_i2l hx d_L_wrecks_8 rfl ?_
  refine jo_last hx rfl d_L_wrecks_9 ?_
  refine jo_goto (tgt := 17) hx d_L_wrecks_10 (by decide) ?_
  refine jo_iconst (v := 0) hx d_L_wrecks_17 (by decide) ?_
  exact jo_oret hx hq d_L_wrecks_18 rfl rfl rfl
theorem wxI_wrecks {l : Launch} {G : Gz} (hG : zI G) {ao : Nat} {cL : ClassId} (hao : ∀ o, o < 610 → G.1 o ≠ ao) {σ σ1 : St} {v : Int64} {k : Nat} (p0 : Int32) (p1 : Int32) (hM : MX l G y_DL_wrecks prog_1_method_33_code 6 (some .int) k [.ref (G.1 0), .int p0, .int p1] σ xIAE σ1) : WO l G ao cL y_L_wrecks method_29_code 5 [(0, 10, 13, 13)] (k + 1) [.ref (G.1 0), .int p0, .int p1, .ref ao] σ v 1 σ1 v := by
  refine WO.of hG hao (by decide) (Nat.le_of_ble_eq_true rfl) (fun X hx hq ht hr => ?_)
  refine jo_aload_n hx d_L_wrecks_0 rfl 3 rfl ?_
  refine jo_iconst (v := 0) hx d_L_wrecks_1 (by decide) ?_
  refine jo_aload_n hx d_L_wrecks_2 rfl 0 rfl ?_
  refine jo_iload_n hx d_L_wrecks_3 rfl 1 rfl ?_
  refine jo_iload_n hx d_L_wrecks_4 rfl 2 rfl ?_
  refine jo_catch hx hM mo_DL_wrecks mv_DL_wrecks t_1335 (Nat.lt_succ_self _) rfl (by decide) (sh_0 _ _) rfl rfl (Nat.le_of_ble_eq_true rfl) d_L_wrecks_5 ⟨Nat.le_of_eq hr.1.symm, Nat.le_of_eq hr.2.symm⟩ [] ⟨0, 10, 13, 13⟩ [] (by rw [ht]; rfl) (fun z hz => nomatch hz) (by decide) (by decide) t_552 t_568 (fun q => ?_)
  refine jo_astore hx ((4, Value.ref q) :: [(0, .ref (G.1 0)), (1, .int p0), (2, .int p1), (3, .ref ao)]) d_L_wrecks_13 (by decide) rfl ?_
  refine jo_iconst (v := 1) hx d_L_wrecks_15 (by decide) ?_
  exact jo_oret hx hq d_L_wrecks_16 rfl rfl rfl
abbrev y_L_winter : MethodName := ⟨"DonkeyLightLaw", "winter", "(LDonkeyLight;IIII[J)I"⟩
theorem wv_winter {l : Launch} {G : Gz} (hG : zI G) {ao : Nat} {cL : ClassId} (hao : ∀ o, o < 610 → G.1 o ≠ ao) {σ σ1 : St} {v : Int64} {r : Int32} {k : Nat} (p0 : Int32) (p1 : Int32) (p2 : Int32) (p3 : Int32) (hM : MI l G y_DL_winter prog_1_method_34_code 5 .int k [.ref (G.1 0), .int p0, .int p1, .int p2, .int p3] σ r σ1) : WO l G ao cL y_L_winter method_30_code 7 [(0, 14, 17, 13)] (k + 1) [.ref (G.1 0), .int p0, .int p1, .int p2, .int p3, .ref ao] σ v 0 σ1 r.toInt64 := by
  refine WO.of hG hao (by decide) (Nat.le_of_ble_eq_true rfl) (fun X hx hq ht hr => ?_)
  refine JO.wide (c' := 1) (n' := 6) (by decide) (by decide) ?_
  refine jo_aload hx d_L_winter_0 5 rfl ?_
  refine jo_iconst (v := 0) hx d_L_winter_2 (by decide) ?_
  refine jo_aload_n hx d_L_winter_3 rfl 0 rfl ?_
  refine jo_iload_n hx d_L_winter_4 rfl 1 rfl ?_
  refine jo_iload_n hx d_L_winter_5 rfl 2 rfl ?_
  refine jo_iload_n hx d_L_winter_6 rfl 3 rfl ?_
  refine jo_iload hx d_L_winter_7 4 rfl ?_
  refine jo_callVi hx hM mo_DL_winter mv_DL_winter t_1347 (Nat.lt_succ_self _) rfl (by decide) (sh_0 _ _) rfl rfl (Nat.le_of_ble_eq_true rfl) d_L_winter_9 ⟨Nat.le_of_eq hr.1.symm, Nat.le_of_eq hr.2.symm⟩ ?_
  refine jo_i2l hx d_L_winter_12 rfl ?_
  refine jo_last hx rfl d_L_winter_13 ?_
  refine jo_goto (tgt := 21) hx d_L_winter_14 (by decide) ?_
  refine jo_iconst (v := 0) hx d_L_winter_21 (by decide) ?_
  exact jo_oret hx hq d_L_winter_22 rfl rfl rfl
theorem wxI_winter {l : Launch} {G : Gz} (hG : zI G) {ao : Nat} {cL : ClassId} (hao : ∀ o, o < 610 → G.1 o ≠ ao) {σ σ1 : St} {v : Int64} {k : Nat} (p0 : Int32) (p1 : Int32) (p2 : Int32) (p3 : Int32) (hM : MX l G y_DL_winter prog_1_method_34_code 5 (some .int) k [.ref (G.1 0), .int p0, .int p1, .int p2, .int p3] σ xIAE σ1) : WO l G ao cL y_L_winter method_30_code 7 [(0, 14, 17, 13)] (k + 1) [.ref (G.1 0), .int p0, .int p1, .int p2, .int p3, .ref ao] σ v 1 σ1 v := by
  refine WO.of hG hao (by decide) (Nat.le_of_ble_eq_true rfl) (fun X hx hq ht hr => ?_)
  refine jo_aload hx d_L_winter_0 5 rfl ?_
  refine jo_iconst (v := 0) hx d_L_winter_2 (by decide) ?_
  refine jo_aload_n hx d_L_winter_3 rfl 0 rfl ?_
  refine jo_iload_n hx d_L_winter_4 rfl 1 rfl ?_
  refine jo_iload_n hx d_L_winter_5 rfl 2 rfl ?_
  refine jo_iload_n hx d_L_winter_6 rfl 3 rfl ?_
  refine jo_iload hx d_L_winter_7 4 rfl ?_
  refine jo_catch hx hM mo_DL_winter mv_DL_winter t_1347 (Nat.lt_succ_self _) rfl (by decide) (sh_0 _ _) rfl rfl (Nat.le_of_ble_eq_true rfl) d_L_winter_9 ⟨Nat.le_of_eq hr.1.symm, Nat.le_of_eq hr.2.symm⟩ [] ⟨0, 14, 17, 13⟩ [] (by rw [ht]; rfl) (fun z hz => nomatch hz) (by decide) (by decide) t_552 t_568 (fun q => ?_)
  refine jo_astore hx ((6, Value.ref q) :: [(0, .ref (G.1 0)), (1, .int p0), (2, .int p1), (3, .int p2), (4, .int p3), (5, .ref ao)]) d_L_winter_17 (by decide) rfl ?_
  refine jo_iconst (v := 1) hx d_L_winter_19 (by decide) ?_
  exact jo_oret hx hq d_L_winter_20 rfl rfl rfl
abbrev y_L_span : MethodName := ⟨"DonkeyLightLaw", "span", "(LDonkeyLight;IIIII[J)I"⟩
theorem wv_span {l : Launch} {G : Gz} (hG : zI G) {ao : Nat} {cL : ClassId} (hao : ∀ o, o < 610 → G.1 o ≠ ao) {σ σ1 : St} {v : Int64} {r : Int32} {k : Nat} (p0 : Int32) (p1 : Int32) (p2 : Int32) (p3 : Int32) (p4 : Int32) (hM : MI l G y_DL_span prog_1_method_35_code 10 .int k [.ref (G.1 0), .int p0, .int p1, .int p2, .int p3, .int p4] σ r σ1) : WO l G ao cL y_L_span method_31_code 8 [(0, 16, 19, 13)] (k + 1) [.ref (G.1 0), .int p0, .int p1, .int p2, .int p3, .int p4, .ref ao] σ v 0 σ1 r.toInt64 := by
  refine WO.of hG hao (by decide) (Nat.le_of_ble_eq_true rfl) (fun X hx hq ht hr => ?_)
  refine JO.wide (c' := 1) (n' := 6) (by decide) (by decide) ?_
  refine jo_aload hx d_L_span_0 6 rfl ?_
  refine jo_iconst (v := 0) hx d_L_span_2 (by decide) ?_
  refine jo_aload_n hx d_L_span_3 rfl 0 rfl ?_
  refine jo_iload_n hx d_L_span_4 rfl 1 rfl ?_
  refine jo_iload_n hx d_L_span_5 rfl 2 rfl ?_
  refine jo_iload_n hx d_L_span_6 rfl 3 rfl ?_
  refine jo_iload hx d_L_span_7 4 rfl ?_
  refine jo_iload hx d_L_span_9 5 rfl ?_
  refine jo_callVi hx hM mo_DL_span mv_DL_span t_1394 (Nat.lt_succ_self _) rfl (by decide) (sh_0 _ _) rfl rfl (Nat.le_of_ble_eq_true rfl) d_L_span_11 ⟨Nat.le_of_eq hr.1.symm, Nat.le_of_eq hr.2.symm⟩ ?_
  refine jo_i2l hx d_L_span_14 rfl ?_
  refine jo_last hx rfl d_L_span_15 ?_
  refine jo_goto (tgt := 23) hx d_L_span_16 (by decide) ?_
  refine jo_iconst (v := 0) hx d_L_span_23 (by decide) ?_
  exact jo_oret hx hq d_L_span_24 rfl rfl rfl
theorem wxI_span {l : Launch} {G : Gz} (hG : zI G) {ao : Nat} {cL : ClassId} (hao : ∀ o, o < 610 → G.1 o ≠ ao) {σ σ1 : St} {v : Int64} {k : Nat} (p0 : Int32) (p1 : Int32) (p2 : Int32) (p3 : Int32) (p4 : Int32) (hM : MX l G y_DL_span prog_1_method_35_code 10 (some .int) k [.ref (G.1 0), .int p0, .int p1, .int p2, .int p3, .int p4] σ xIAE σ1) : WO l G ao cL y_L_span method_31_code 8 [(0, 16, 19, 13)] (k + 1) [.ref (G.1 0), .int p0, .int p1, .int p2, .int p3, .int p4, .ref ao] σ v 1 σ1 v := by
  refine WO.of hG hao (by decide) (Nat.le_of_ble_eq_true rfl) (fun X hx hq ht hr => ?_)
  refine jo_aload hx d_L_span_0 6 rfl ?_
  refine jo_iconst (v := 0) hx d_L_span_2 (by decide) ?_
  refine jo_aload_n hx d_L_span_3 rfl 0 rfl ?_
  refine jo_iload_n hx d_L_span_4 rfl 1 rfl ?_
  refine jo_iload_n hx d_L_span_5 rfl 2 rfl ?_
  refine jo_iload_n hx d_L_span_6 rfl 3 rfl ?_
  refine jo_iload hx d_L_span_7 4 rfl ?_
  refine jo_iload hx d_L_span_9 5 rfl ?_
  refine jo_catch hx hM mo_DL_span mv_DL_span t_1394 (Nat.lt_succ_self _) rfl (by decide) (sh_0 _ _) rfl rfl (Nat.le_of_ble_eq_true rfl) d_L_span_11 ⟨Nat.le_of_eq hr.1.symm, Nat.le_of_eq hr.2.symm⟩ [] ⟨0, 16, 19, 13⟩ [] (by rw [ht]; rfl) (fun z hz => nomatch hz) (by decide) (by decide) t_552 t_568 (fun q => ?_)
  refine jo_astore hx ((7, Value.ref q) :: [(0, .ref (G.1 0)), (1, .int p0), (2, .int p1), (3, .int p2), (4, .int p3), (5, .int p4), (6, .ref ao)]) d_L_span_19 (by decide) rfl ?_
  refine jo_iconst (v := 1) hx d_L_span_21 (by decide) ?_
  exact jo_oret hx hq d_L_span_22 rfl rfl rfl
