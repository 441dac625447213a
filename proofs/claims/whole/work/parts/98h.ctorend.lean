/-! THE REFERENCE'S CONSTRUCTOR, to its end: the whole world stands -/
set_option maxRecDepth 100000 in
theorem gof_ge : ∀ o, o < 610 → 112 ≤ o → 112 ≤ gof o := by decide +kernel
theorem enM_0 : enM 0 = 111 := by decide +kernel
def zBm (G : Gz) (U : State) : Prop := U.heap.size = G.1 111 + 1 ∧ va_at G.2.1 zcl (G.1 111, .inr (12, zblank 12)) U.heap ∧ (∀ o, o < 111 → va_at G.2.1 zcl (G.1 o, zs G o (ι o)) U.heap) ∧ va_K G.2.1 zcl (ztys G) U ∧ zX G (fun q => G.1 0 ≤ q) U U.heap ∧ zAO G U
/-- the world at the law's first call -/
def σ0 : St := baS (mtn ι)
def zQm (G : Gz) : Array Value → State → Outcome → State → Prop := va_Qv (fun (u : St) => u = σ0) (fun u t => va_P G.2.1 zcl (zw G u) t.heap) (fun q => G.1 0 ≤ q)
theorem zBm_blind {G : Gz} {av : List Value} : FrameBlind (va_Pc av (zBm G)) := fun a U g mk h => ⟨h.1, h.2.1, h.2.2.1, h.2.2.2.1, va_K.moved (u := U) (U := U.calling g mk a) (Vm.Alike.refl U.vm) h.2.2.2.2.1, zX.same (s := U) (U := U.calling g mk a) rfl h.2.2.2.2.2.1, zAO.moved (u := U) (U := U.calling g mk a) (Vm.Alike.refl U.vm) h.2.2.2.2.2.2⟩
def JZ (l : Launch) (G : Gz) (X : Cx) (nL : Nat) (σ : St) (c9 n9 pc : Nat) (ls : List (Nat × Value)) (st : List Value) : Prop :=
  ∀ (H : Heap) (locs : List Loc) (la : Array Slot), va_P G.2.1 zcl (zw G σ) H ∧ va_S (fun q => G.1 0 ≤ q) (xs X).heap H locs → lv_has la nL ls → W (xp X) l (xe X) (xR X) (xs X) (xm X) (xa X) (xb X) (xh X) (xc X) H locs c9 n9 (xQ X) (F0 (xm X) pc la st)
section JZR
variable {l : Launch} {G : Gz} {X : Cx} {b : ByteArray} {nL k pc : Nat} {own : String} {σ σ' : St} {NN C S c9 n9 : Nat} {en : Nat → Nat} {ls : List (Nat × Value)}
theorem jz_callVv (hx : Gk G X b nL own k en NN C S) (hg : zG G) (hX : zX G (fun q => G.1 0 ≤ q) (xs X) (xs X).heap) (hsz : G.1 0 ≤ (xs X).heap.size) {y : MethodName} {b' : ByteArray} {nL' k' index : Nat} {T : u_T} {N ci o : Nat} {fs : List Value} (hM : MV l G y b' nL' k' [.ref (G.1 o)] σ σ') (m1 : mOK y b' nL' none 0) (m2 : mV y) (t : Cond.methodLink own index y ∈ TB) (hk : k' < k) (ho : o < 610) (he : zs G o (σ o) = .inr (ci, fs)) (hc : zcl[ci]? = some (y.cls, T, N)) (d : decode b pc = .ok (.invokevirtual index, 3)) (hr9 : c9 ≤ C ∧ n9 ≤ S) (K : JZ l G X nL σ' c9 n9 (pc + 3) ls []) : JZ l G X nL σ c9 n9 pc ls [.ref (G.1 o)] := by
  intro H locs la hz hl
  obtain ⟨h1, h2, h3, h4, h5, h6, h7, h8, h9, h10, h11, h12, h13, h14⟩ := hx
  have hA : ∀ q, zA G H.size q → G.1 0 ≤ q := fun q hq => hq.elim (fun ⟨o9, ho9, e⟩ => by rw [← e, hg o9 ho9]; exact Nat.le_add_right _ _) (fun z => Nat.le_trans hsz (Nat.le_trans hz.2.1 z))
  have hpv : PreV (xs X) H y.cls (G.1 o) (va_Pc [.ref (G.1 o)] (zB G σ H.size)) [] := ⟨zB_blind, va_recv h8 hz.1 hc (zw_get' ho he), fun U hU hW => ⟨rfl, by rw [hU], by rw [hU]; exact hz.1, va_K.moved hW.alike h8, by rw [hU]; exact ((hX.kept hz.2.2.1).narrow hA).warm hW⟩⟩
  have cw : CallW (xR X) (xs X) (xa X) own y.cls index y b' nL' none (.code y b' nL' none :: TB) (rmK k') 0 0 0 := ⟨callB_of 0 h5 (goodTB m1.1) rfl rfl rfl (h5 _ m1.2.1) (h5 _ t) m1.2.2.1 (zroom h7 hk m1.2.2.2), h5 _ m2.1, h5 _ m2.2⟩
  have hr : va_Run (xp X) l (xe X) (xR X) (xs X) (xm X) (xa X) (xb X) (xh X) (xc X) H locs c9 n9 0 0 (F0 (xm X) pc la [.ref (G.1 o)]) [] (zQv G σ' H.size [Value.ref (G.1 o)].toArray) (zA G H.size) := va_runV (As := []) (rest := []) ⟨h1, h2, h3, h4, h5⟩ (hM H.size) cw hpv rfl rfl hl.1 rfl (lv_room (Nat.zero_le _)) d ⟨by rw [h13]; exact hr9.1, by rw [h14]; exact hr9.2⟩
  refine va_callv hr hz.2 (fun q _ h => hA q h) hA (fun u t H1 locs1 ht hvm hw hB hz1 hk1 hS => ?_)
  obtain rfl := hw
  rw [ht] at hB
  exact K H1 locs1 la ⟨hB, hS⟩ hl
theorem jz_aload (hx : Gk G X b nL own k en NN C S) {q : Fin 4} {i : Nat} {x : Nat} (d : decode b pc = .ok (.aload_n q, 1)) (hi : (q : Nat) = i) (z : Nat) (h : ls[z]? = some (i, .ref x)) (K : JZ l G X nL σ c9 n9 (pc + 1) ls [.ref x]) : JZ l G X nL σ c9 n9 pc ls [] := fun H locs la hz hl => lv_aload_n hx.1 hx.2.1 d hi (lv_at hl z h) (K H locs la hz hl)
end JZR
theorem mtn_b : rtB (mtn ι) := by
  have h := mtn_rt (t := ι)
  unfold rtW at h
  unfold rtB ct
  omega
set_option maxRecDepth 20000 in
theorem CM {l : Launch} {G : Gz} (hg : zG G) : Met l y_Mo_init (.code y_Mo_init prog_14_method_1_code 1 none :: TB) (rmC 6 498 4526) (va_Pc [.ref (G.1 111)] (zBm G)) (zQm G) 498 4526 (fun q => G.1 0 ≤ q) := by
  refine Met.ofW (cc := prog_14_method_1_code) (maxL := 1) (ret := none) (by decide) rfl ?_
  intro p e s m args below meth c s₁ B hml hv
  obtain ⟨rfl, hsz, hat, hcl, hK, hX, hAO⟩ := hv
  have hts := atoms_spec (ws := .code y_Mo_init prog_14_method_1_code 1 none :: TB) B.pre
  have hnm : meth.name = "<init>" := (name_of_methodNamed B.named B.method).1
  have g111 : G.1 111 = G.1 0 + 111 := hg.k 111 (by decide)
  obtain ⟨X, eX⟩ : ∃ X : Cx, X = ⟨p, e, rmC 6 498 4526, s, m, [Value.ref (G.1 111)].toArray, below, meth, c, MQ below (zQm G) [Value.ref (G.1 111)].toArray s 498 4526 (fun q => G.1 0 ≤ q)⟩ := ⟨_, rfl⟩
  have hx : Gk G X prog_14_method_1_code 1 "DonkeyLightModel" 6 enM 499 498 4526 := by
    subst eX
    exact ⟨B.exec, B.bytes, hml, findClass_of_methodNamed B.named, fun w hw => hts w (List.mem_cons_of_mem _ hw), B.notSynchronized, ⟨Nat.le_refl _, Nat.le_refl _⟩, hK, hX.1, hnm, hg.e, by rw [enM_0]; exact hsz, rfl, rfl⟩
  have hAOX : zAO G (xs X) := by subst eX; exact hAO
  have hXX : zX G (fun q => G.1 0 ≤ q) (xs X) (xs X).heap := by subst eX; exact hX
  have hsX : (xs X).heap = s.heap := by subst eX; rfl
  have hQ : xQ X = MQ below (zQm G) [Value.ref (G.1 111)].toArray s 498 4526 (fun q => G.1 0 ≤ q) := by subst eX; rfl
  have hret : (xh X).sig.returnType = none := by subst eX; exact B.returns
  have hend : JZ l G X 1 σ0 498 4526 259 [(0, .ref (G.1 111))] [] := by
    intro H locs la hz hl
    subst eX
    exact W.vret hx.1 hx.2.1 hret (fun t ht hW => ⟨⟨σ0, rfl, rfl, by show va_P G.2.1 zcl (zw G σ0) t.heap; rw [ht]; exact hz.1⟩, hz.2.F ht⟩) hz.2.2.2 d_Mo_init_259 hx.2.2.2.2.2.1
  have hmid : JZ l G X 1 ι 498 4526 251 [(0, .ref (G.1 111))] [] := by
    refine jz_aload hx d_Mo_init_251 rfl 0 rfl ?_
    refine jz_callVv hx hg hXX (by rw [hsX]; omega) (c_Mo_tellsNothing hg.i ι) mo_Mo_tellsNothing mv_Mo_tellsNothing t_1407 (by decide) (by decide) (sh_111 _ _) rfl d_Mo_init_252 ⟨by decide, by decide⟩ ?_
    refine jz_aload hx d_Mo_init_255 rfl 0 rfl ?_
    exact jz_callVv hx hg hXX (by rw [hsX]; omega) (c_Mo_beginsAnew hg.i (mtn ι) mtn_b) mo_Mo_beginsAnew mv_Mo_beginsAnew t_1411 (by decide) (by decide) (sh_111 _ _) rfl d_Mo_init_256 ⟨by decide, by decide⟩ hend
  have hall : JC l G X 1 ι enM (zs G 111 (ι 111)) 499 none 498 4526 251 [(0, .ref (G.1 111))] [] := by
    intro H locs la hz hl
    refine hmid H locs la ⟨fun q x hq => ?_, ?_⟩ hl
    · obtain ⟨hq9, rfl⟩ := zw_inv hq
      by_cases h1 : q < 111
      · have := hcl q h1
        refine this.kept ?_
        have e1 := hz.2.2.1 (G.1 q) (by rw [hsX]; exact this.lt) (by rw [enM_0, g111, hg.k q (by omega)]; omega)
        rw [hsX] at e1
        exact e1
      · by_cases h2 : q = 111
        · subst h2
          have := hz.1.1
          rw [enM_0] at this
          exact this
        · have g2 := gof_ge q hq9 (by omega)
          have g3 := gof_lt q hq9
          have := hz.1.2.1 (gof q - 111) (by omega) (by omega)
          have ee : enM (gof q - 111) = q := by
            unfold enM
            rw [show 111 + (gof q - 111) = gof q by omega]
            exact inv_gof q hq9
          rw [ee] at this
          exact this
    · refine ⟨hz.2.1, fun q a b => hz.2.2.1 q a (fun c => b (Nat.le_trans (by rw [enM_0]; omega) c)), fun x hx9 => Nat.le_trans (by rw [enM_0]; omega) (hz.2.2.2 x hx9)⟩
  have hall' : JC l G X 1 ι enM (zs G 111 (ι 111)) 499 none 498 4526 251 [(0, .ref (G.1 (enM 0)))] [] := by rw [enM_0]; exact hall
  have hw := mo_walk (l := l) enM_1 enM_2 enM_3 enM_4 enM_5 enM_6 enM_7 enM_8 enM_9 enR_9 enM_16 enR_16 enM_23 enR_23 enM_27 enR_27 enM_31 enR_31 enM_38 enR_38 enM_45 enR_45 enM_206 enR_206 enM_367 enR_367 enM_380 enR_380 enM_393 enM_394 enM_395 enR_395 enM_476 enM_477 enM_478 enR_478 enM_495 enR_495 (by decide) hx hAOX hall'
  have e0 : G.1 (enM 0) = G.1 111 := by rw [enM_0]
  rw [e0] at hw
  have h := hw s.heap [] _ ⟨⟨by rw [enM_0]; exact hat, fun k a b => absurd b (by omega), fun ci z => by cases z⟩, by rw [hsX]; exact va_S.rf⟩ (lv_entry [Value.ref (G.1 111)] (Nat.le_of_ble_eq_true rfl))
  subst eX
  rw [lg_entry_eq]
  exact h
