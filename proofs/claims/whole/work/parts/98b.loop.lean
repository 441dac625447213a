def R_law : String := "DonkeyLightLaw"
def lw_P (b : Addr) (xs : List Int32) (args : Array Value) (s : State) : Prop := args = #[.ref b] ∧ s.IntsAt b xs ∧ xs.length ≤ 4096 ∧ (Jvm.Cond.and given_1 narrow_1).before args s = true
def lw_Q (_ : Array Value) (s : State) (o : Outcome) (t : State) : Prop := o = .returned (some (.int 1)) ∧ Framed s o t [] 601024 7293034
def lw_Z (below : List Frame) (a : Array Value) (s : State) : State → Prop := fun t => ∃ o, t.status = .running ∧ Ended t below o ∧ lw_Q a s o t
theorem lw_ret {p : Program} {l : Launch} {e : Env} {s : State} {m : MethodId} {below : List Frame} {meth : Method} {c : Code} {b : Nat} (hx : p.tables.exec = Jvm.exec) (hb : c.code = code) (hr : meth.sig.returnType = ret) (hlocks : meth.locks = false) {pc : Nat} {H : Heap} {ls : Array Slot} (hdg : decode code pc = .ok (.ireturn, 1)) : W p l e room_1 s m #[Value.ref b] below meth c H [] 601024 7293034 (lw_Z below #[Value.ref b] s) (F0 m pc ls [.int 1]) := by
  intro T hT X
  obtain ⟨fs, hret, hrun, hended, hW, hframe⟩ := X.leave (v := some (.int 1)) (hlocks := hlocks) (fun h => by rw [hr] at h; cases h)
  have hmeth' : T.vm.method? m = some meth := X.method'
  refine ⟨T.setFrames fs, ?_, .returned (some (.int 1)), hrun, hended, rfl, ⟨_, rfl⟩, hW, hframe⟩
  jvm_step X.here [X.here.top, hx, hb, hdg, hmeth', hr, ret, narrow_b1]
  (try refine ⟨rfl, ?_⟩); (try refine ⟨rfl, ?_⟩)
  first | (intro acts; rw [hret _ acts rfl rfl rfl]) | rw [hret _ _ rfl rfl rfl]
  exact Steps.refl _
def lw_At (p : Program) (s : State) (m : MethodId) (meth : Method) (c : Code) (b L : Nat) (xs : Nat → Int32) : Prop :=
  p.tables.exec = Jvm.exec ∧ c.code = code ∧ meth.sig.returnType = ret ∧ c.maxLocals = 8 ∧ s.vm.findClass R_law = some m.cls ∧ (∀ w ∈ lw_tbl, w.before #[Value.ref b] s = true) ∧ va_X b L xs s s.heap ∧ b < s.heap.size ∧ meth.locks = false ∧ (Jvm.Cond.and given_1 narrow_1).before #[Value.ref b] s = true
theorem ks_ix {j : Nat} : nI (8 * j) + 8 = nI (8 * (j + 1)) := nI_pl (8 * j) 8
section LOOP
variable {l : Launch} {G : Gz} {ao : Nat} {cL : ClassId} {A : Nat → Prop} {X : Cx} {sb L j : Nat} {ks : Nat → Int32} {σ : St} {w9 : Int64} {c9 n9 : Nat}
theorem law_head (hg : Gl G ao cL A X sb L ks) (hj : 8 * j ≤ L + 8) (K1 : L < 8 * j + 8 → JO l G ao cL A X 8 σ w9 c9 n9 2423 (zLS G ao sb j) []) (K2 : 8 * j + 8 ≤ L → JO l G ao cL A X 8 σ w9 c9 n9 33 (zLS G ao sb j) []) : JO l G ao cL A X 8 σ w9 c9 n9 23 (zLS G ao sb j) [] := by
  obtain ⟨hx, hS, hL⟩ := hg
  refine jo_iload hx d_L_main_23 0 rfl ?_
  refine jo_aload_n hx d_L_main_25 rfl 4 rfl ?_
  refine jo_slen hx hS d_L_main_26 ?_
  refine jo_bipush (v := 8) hx d_L_main_27 (by decide) ?_
  refine jo_isub hx d_L_main_29 ?_
  have e1 : (nI L - 8).toInt = L - 8 := i_sub (i_nI (by omega)) rfl (by omega) (by omega)
  have e2 : (nI (8 * j)).toInt = (8 * j : Nat) := i_nI (by omega)
  refine jo_icmp_gt (tgt := 2423) hx d_L_main_30 (by decide) (fun c => K1 ?_) (fun c => K2 ?_)
  · rw [i_lt, e1, e2] at c; omega
  · rw [i_lt, e1, e2] at c; omega
theorem law_back (hg : Gl G ao cL A X sb L ks) (K : JO l G ao cL A X 8 σ w9 c9 n9 23 (zLS G ao sb (j + 1)) []) : JO l G ao cL A X 8 σ w9 c9 n9 2417 (zLS G ao sb j) [] := by
  obtain ⟨hx, hS, hL⟩ := hg
  refine jo_iinc hx (zLS G ao sb (j + 1)) d_L_main_2417 0 rfl ks_ix (by decide) rfl ?_
  exact jo_goto (tgt := 23) hx d_L_main_2420 (by decide) K
theorem law_body (hl : l.stackTraces = false) (hG : zI G) (hao : ∀ o, o < 610 → G.1 o ≠ ao) (hg : Gl G ao cL A X sb L ks) (hj : 8 * j + 8 ≤ L) (h : RV σ) (hr : c9 + 1 ≤ (xR X).cells ∧ n9 + 6 ≤ (xR X).slots) (K : ∀ (σ2 : St) (v1 : Int64), RV σ2 → JO l G ao cL A X 8 σ2 v1 (c9 + 1) (n9 + 6) 2417 (zLS G ao sb j) []) : JO l G ao cL A X 8 σ w9 c9 n9 33 (zLS G ao sb j) [] := by
  have hg0 := hg
  obtain ⟨hx, hS, hL⟩ := hg
  refine jo_aload_n hx d_L_main_33 rfl 4 rfl ?_
  refine jo_iload hx d_L_main_34 0 rfl ?_
  refine jo_sld hx hS hL (i := 8 * j) (by omega) rfl d_L_main_36 ?_
  refine jo_bipush (v := 63) hx d_L_main_37 (by decide) ?_
  refine jo_iand hx d_L_main_39 ?_
  generalize ks (8 * j) &&& 63 = x
  by_cases h1 : x.toInt < 0
  · exact jo_tableOut (tgt := 2417) hx d_L_main_40 (Or.inl h1) (by decide) (JO.wide (Nat.le_succ _) (Nat.le_add_right _ 6) (K _ _ h))
  by_cases h2 : 37 < x.toInt
  · exact jo_tableOut (tgt := 2417) hx d_L_main_40 (Or.inr h2) (by decide) (JO.wide (Nat.le_succ _) (Nat.le_add_right _ 6) (K _ _ h))
  obtain ⟨k, ek, hk⟩ : ∃ k : Nat, x.toInt = k ∧ k ≤ 37 := ⟨x.toInt.toNat, by omega, by omega⟩
  rcases (show k = 0 ∨ k = 1 ∨ k = 2 ∨ k = 3 ∨ k = 4 ∨ k = 5 ∨ k = 6 ∨ k = 7 ∨ k = 8 ∨ k = 9 ∨ k = 10 ∨ k = 11 ∨ k = 12 ∨ k = 13 ∨ k = 14 ∨ k = 15 ∨ k = 16 ∨ k = 17 ∨ k = 18 ∨ k = 19 ∨ k = 20 ∨ k = 21 ∨ k = 22 ∨ k = 23 ∨ k = 24 ∨ k = 25 ∨ k = 26 ∨ k = 27 ∨ k = 28 ∨ k = 29 ∨ k = 30 ∨ k = 31 ∨ k = 32 ∨ k = 33 ∨ k = 34 ∨ k = 35 ∨ k = 36 ∨ k = 37 by omega) with r | r | r | r | r | r | r | r | r | r | r | r | r | r | r | r | r | r | r | r | r | r | r | r | r | r | r | r | r | r | r | r | r | r | r | r | r | r
  · subst r; exact jo_tableIn (off := 168) (tgt := 208) hx d_L_main_40 h1 h2 (by rw [ek]; rfl) (by decide) (oc_feed hl hG hao hg0 hj h hr K)
  · subst r; exact jo_tableIn (off := 241) (tgt := 281) hx d_L_main_40 h1 h2 (by rw [ek]; rfl) (by decide) (oc_coast hl hG hao hg0 hj h hr K)
  · subst r; exact jo_tableIn (off := 297) (tgt := 337) hx d_L_main_40 h1 h2 (by rw [ek]; rfl) (by decide) (oc_law hl hG hao hg0 hj h hr K)
  · subst r; exact jo_tableIn (off := 353) (tgt := 393) hx d_L_main_40 h1 h2 (by rw [ek]; rfl) (by decide) (oc_work hl hG hao hg0 hj h hr K)
  · subst r; exact jo_tableIn (off := 409) (tgt := 449) hx d_L_main_40 h1 h2 (by rw [ek]; rfl) (by decide) (oc_log hl hG hao hg0 hj h hr K)
  · subst r; exact jo_tableIn (off := 465) (tgt := 505) hx d_L_main_40 h1 h2 (by rw [ek]; rfl) (by decide) (oc_fault hl hG hao hg0 hj h hr K)
  · subst r; exact jo_tableIn (off := 478) (tgt := 518) hx d_L_main_40 h1 h2 (by rw [ek]; rfl) (by decide) (oc_undo hl hG hao hg0 hj h hr K)
  · subst r; exact jo_tableIn (off := 491) (tgt := 531) hx d_L_main_40 h1 h2 (by rw [ek]; rfl) (by decide) (oc_told hl hG hao hg0 hj h hr K)
  · subst r; exact jo_tableIn (off := 547) (tgt := 587) hx d_L_main_40 h1 h2 (by rw [ek]; rfl) (by decide) (oc_cell hl hG hao hg0 hj h hr K)
  · subst r; exact jo_tableIn (off := 615) (tgt := 655) hx d_L_main_40 h1 h2 (by rw [ek]; rfl) (by decide) (oc_light hl hG hao hg0 hj h hr K)
  · subst r; exact jo_tableIn (off := 683) (tgt := 723) hx d_L_main_40 h1 h2 (by rw [ek]; rfl) (by decide) (oc_donkey hl hG hao hg0 hj h hr K)
  · subst r; exact jo_tableIn (off := 751) (tgt := 791) hx d_L_main_40 h1 h2 (by rw [ek]; rfl) (by decide) (oc_ship hl hG hao hg0 hj h hr K)
  · subst r; exact jo_tableIn (off := 819) (tgt := 859) hx d_L_main_40 h1 h2 (by rw [ek]; rfl) (by decide) (oc_seen hl hG hao hg0 hj h hr K)
  · subst r; exact jo_tableIn (off := 887) (tgt := 927) hx d_L_main_40 h1 h2 (by rw [ek]; rfl) (by decide) (oc_would hl hG hao hg0 hj h hr K)
  · subst r; exact jo_tableIn (off := 1026) (tgt := 1066) hx d_L_main_40 h1 h2 (by rw [ek]; rfl) (by decide) (oc_tried hl hG hao hg0 hj h hr K)
  · subst r; exact jo_tableIn (off := 1094) (tgt := 1134) hx d_L_main_40 h1 h2 (by rw [ek]; rfl) (by decide) (oc_safe hl hG hao hg0 hj h hr K)
  · subst r; exact jo_tableIn (off := 1107) (tgt := 1147) hx d_L_main_40 h1 h2 (by rw [ek]; rfl) (by decide) (oc_put hl hG hao hg0 hj h hr K)
  · subst r; exact jo_tableIn (off := 1175) (tgt := 1215) hx d_L_main_40 h1 h2 (by rw [ek]; rfl) (by decide) (oc_save hl hG hao hg0 hj h hr K)
  · subst r; exact jo_tableIn (off := 1231) (tgt := 1271) hx d_L_main_40 h1 h2 (by rw [ek]; rfl) (by decide) (oc_fits hl hG hao hg0 hj h hr K)
  · subst r; exact jo_tableIn (off := 1287) (tgt := 1327) hx d_L_main_40 h1 h2 (by rw [ek]; rfl) (by decide) (oc_look hl hG hao hg0 hj h hr K)
  · subst r; exact jo_tableIn (off := 1343) (tgt := 1383) hx d_L_main_40 h1 h2 (by rw [ek]; rfl) (by decide) (oc_code hl hG hao hg0 hj h hr K)
  · subst r; exact jo_tableIn (off := 1411) (tgt := 1451) hx d_L_main_40 h1 h2 (by rw [ek]; rfl) (by decide) (oc_shortest hl hG hao hg0 hj h hr K)
  · subst r; exact jo_tableIn (off := 1424) (tgt := 1464) hx d_L_main_40 h1 h2 (by rw [ek]; rfl) (by decide) (oc_wink hl hG hao hg0 hj h hr K)
  · subst r; exact jo_tableIn (off := 1541) (tgt := 1581) hx d_L_main_40 h1 h2 (by rw [ek]; rfl) (by decide) (oc_carriers hl hG hao hg0 hj h hr K)
  · subst r; exact jo_tableIn (off := 1597) (tgt := 1637) hx d_L_main_40 h1 h2 (by rw [ek]; rfl) (by decide) (oc_share hl hG hao hg0 hj h hr K)
  · subst r; exact jo_tableIn (off := 1665) (tgt := 1705) hx d_L_main_40 h1 h2 (by rw [ek]; rfl) (by decide) (oc_drawn hl hG hao hg0 hj h hr K)
  · subst r; exact jo_tableIn (off := 1721) (tgt := 1761) hx d_L_main_40 h1 h2 (by rw [ek]; rfl) (by decide) (oc_flash hl hG hao hg0 hj h hr K)
  · subst r; exact jo_tableIn (off := 1789) (tgt := 1829) hx d_L_main_40 h1 h2 (by rw [ek]; rfl) (by decide) (oc_alike hl hG hao hg0 hj h hr K)
  · subst r; exact jo_tableIn (off := 1869) (tgt := 1909) hx d_L_main_40 h1 h2 (by rw [ek]; rfl) (by decide) (oc_blind hl hG hao hg0 hj h hr K)
  · subst r; exact jo_tableIn (off := 1925) (tgt := 1965) hx d_L_main_40 h1 h2 (by rw [ek]; rfl) (by decide) (oc_reefs hl hG hao hg0 hj h hr K)
  · subst r; exact jo_tableIn (off := 1981) (tgt := 2021) hx d_L_main_40 h1 h2 (by rw [ek]; rfl) (by decide) (oc_brightest hl hG hao hg0 hj h hr K)
  · subst r; exact jo_tableIn (off := 2037) (tgt := 2077) hx d_L_main_40 h1 h2 (by rw [ek]; rfl) (by decide) (oc_wrecks hl hG hao hg0 hj h hr K)
  · subst r; exact jo_tableIn (off := 2105) (tgt := 2145) hx d_L_main_40 h1 h2 (by rw [ek]; rfl) (by decide) (oc_winter hl hG hao hg0 hj h hr K)
  · subst r; exact jo_tableIn (off := 2197) (tgt := 2237) hx d_L_main_40 h1 h2 (by rw [ek]; rfl) (by decide) (oc_span hl hG hao hg0 hj h hr K)
  · subst r; exact jo_tableIn (off := 2301) (tgt := 2341) hx d_L_main_40 h1 h2 (by rw [ek]; rfl) (by decide) (oc_image hl hG hao hg0 hj h hr K)
  · subst r; exact jo_tableIn (off := 2314) (tgt := 2354) hx d_L_main_40 h1 h2 (by rw [ek]; rfl) (by decide) (oc_restore hl hG hao hg0 hj h hr K)
  · subst r; exact jo_tableIn (off := 2327) (tgt := 2367) hx d_L_main_40 h1 h2 (by rw [ek]; rfl) (by decide) (oc_status hl hG hao hg0 hj h hr K)
  · subst r; exact jo_tableIn (off := 2352) (tgt := 2392) hx d_L_main_40 h1 h2 (by rw [ek]; rfl) (by decide) (oc_count hl hG hao hg0 hj h hr K)
/-- the law, from the loop's head on: to the end, with true -/
theorem law_loop (hl : l.stackTraces = false) (hG : zI G) (hao : ∀ o, o < 610 → G.1 o ≠ ao) (hg : Gl G ao cL A X sb L ks)
    (hret : ∀ (σ : St) (v : Int64) (c n : Nat) (ls : List (Nat × Value)), c ≤ (xR X).cells → n ≤ (xR X).slots → JO l G ao cL A X 8 σ v c n 2424 ls [.int 1]) :
    ∀ (m j : Nat) (σ : St) (w9 : Int64) (c9 n9 : Nat), L < 8 * (m + j) + 8 → 8 * j ≤ L + 8 → RV σ → c9 + m + 1 ≤ (xR X).cells → n9 + 6 * m + 6 ≤ (xR X).slots → JO l G ao cL A X 8 σ w9 c9 n9 23 (zLS G ao sb j) [] := by
  intro m
  induction m with
  | zero =>
    intro j σ w9 c9 n9 hm hj h hc hn
    exact law_head hg hj (fun _ => jo_iconst (v := 1) hg.1 d_L_main_2423 (by decide) (hret _ _ _ _ _ (by omega) (by omega))) (fun z => absurd z (by omega))
  | succ m ih =>
    intro j σ w9 c9 n9 hm hj h hc hn
    refine law_head hg hj (fun _ => jo_iconst (v := 1) hg.1 d_L_main_2423 (by decide) (hret _ _ _ _ _ (by omega) (by omega))) (fun z => ?_)
    exact law_body hl hG hao hg z h ⟨by omega, by omega⟩ (fun σ2 v1 h2 => law_back hg (ih (j + 1) σ2 v1 (c9 + 1) (n9 + 6) (by omega) (by omega) h2 (by omega) (by omega)))
end LOOP
