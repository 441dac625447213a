def zgn : List Cond := flatC (Jvm.Cond.and given_1 narrow_1)
set_option maxRecDepth 100000 in
theorem sx_1 : ∀ i, i < 5 → Cond.exactly (ztm i) "java/lang/String" ∈ zgn := by decide +kernel
set_option maxRecDepth 100000 in
theorem sx_2 : ∀ i, i < 5 → Cond.eq (.field (ztm i) "java/lang/String" "coder" "B") (.int 0) ∈ zgn := by decide +kernel
set_option maxRecDepth 100000 in
theorem sx_3 : ∀ i, i < 5 → Cond.arrayOf (.field (ztm i) "java/lang/String" "value" "[B") .byte ∈ zgn := by decide +kernel
set_option maxRecDepth 100000 in
theorem sx_4 : ∀ i, i < 5 → Cond.eq (.length (.field (ztm i) "java/lang/String" "value" "[B")) (.int (Int32.ofNat (zslen.getD i 0))) ∈ zgn := by decide +kernel
set_option maxRecDepth 100000 in
theorem sx5_0 : (List.range 27).map (fun j => Cond.eq (.elem (.field (ztm 0) "java/lang/String" "value" "[B") (.int (Int32.ofNat j))) (.int ((zsbyt.getD 0 []).getD j 0))) = (zgn.drop 43).take 27 := by decide +kernel
set_option maxRecDepth 100000 in
theorem sx5_1 : (List.range 33).map (fun j => Cond.eq (.elem (.field (ztm 1) "java/lang/String" "value" "[B") (.int (Int32.ofNat j))) (.int ((zsbyt.getD 1 []).getD j 0))) = (zgn.drop 74).take 33 := by decide +kernel
set_option maxRecDepth 100000 in
theorem sx5_2 : (List.range 61).map (fun j => Cond.eq (.elem (.field (ztm 2) "java/lang/String" "value" "[B") (.int (Int32.ofNat j))) (.int ((zsbyt.getD 2 []).getD j 0))) = (zgn.drop 112).take 61 := by decide +kernel
set_option maxRecDepth 100000 in
theorem sx5_3 : (List.range 37).map (fun j => Cond.eq (.elem (.field (ztm 3) "java/lang/String" "value" "[B") (.int (Int32.ofNat j))) (.int ((zsbyt.getD 3 []).getD j 0))) = (zgn.drop 179).take 37 := by decide +kernel
set_option maxRecDepth 100000 in
theorem sx5_4 : (List.range 31).map (fun j => Cond.eq (.elem (.field (ztm 4) "java/lang/String" "value" "[B") (.int (Int32.ofNat j))) (.int ((zsbyt.getD 4 []).getD j 0))) = (zgn.drop 223).take 31 := by decide +kernel
theorem sx_5 : ∀ i, i < 5 → ∀ j, j < zslen.getD i 0 → Cond.eq (.elem (.field (ztm i) "java/lang/String" "value" "[B") (.int (Int32.ofNat j))) (.int ((zsbyt.getD i []).getD j 0)) ∈ zgn := fun i hi => by
  rcases (show i = 0 ∨ i = 1 ∨ i = 2 ∨ i = 3 ∨ i = 4 by omega) with r | r | r | r | r
  · subst r; exact fun j hj => va_run sx5_0 j hj
  · subst r; exact fun j hj => va_run sx5_1 j hj
  · subst r; exact fun j hj => va_run sx5_2 j hj
  · subst r; exact fun j hj => va_run sx5_3 j hj
  · subst r; exact fun j hj => va_run sx5_4 j hj
set_option maxRecDepth 100000 in
theorem sx_6 : ∀ i, i < 5 → ∀ j, j < 5 → i ≠ j → Cond.not (Cond.eq (ztm i) (ztm j)) ∈ zgn ∨ Cond.not (Cond.eq (ztm j) (ztm i)) ∈ zgn := by decide +kernel
theorem zX_ex {s : State} {args : Array Value} (hts : ∀ w ∈ lw_tbl, w.before args s = true) (hpre : (Jvm.Cond.and given_1 narrow_1).before args s = true) : ∃ adK adV : Nat → Nat, ∀ G : Gz, G.2.2.2.2.1 = adK → G.2.2.2.2.2 = adV → zX G (fun q => s.heap.size ≤ q) s s.heap := by
  have hs : ∀ c ∈ zgn, c.before args s = true := flat_of_before _ hpre
  have htb : ∀ w ∈ tables_1, w.before args s = true := fun w hw => hts w (List.mem_append_right _ hw)
  have hA : ∀ a : Nat, a < s.heap.size → ¬ s.heap.size ≤ a := fun a h z => absurd h (Nat.not_lt.mpr z)
  obtain ⟨adK, adV, hS, hE⟩ := vk_Sof (args := args) (s := s) (N := 5) (tm := ztm) (len := zslen) (byt := zsbyt) (A := fun q => s.heap.size ≤ q) (by decide) (fun i hi => hs _ (sx_1 i hi)) (fun i hi => hs _ (sx_2 i hi)) (fun i hi => hs _ (sx_3 i hi)) (fun i hi => hs _ (sx_4 i hi)) (fun i hi j hj => hs _ (sx_5 i hi j hj)) (fun i j hi hj hij => (sx_6 i hi j hj hij).imp (fun z => hs _ z) (fun z => hs _ z)) hA
  refine ⟨adK, adV, fun G e1 e2 => ?_⟩
  subst e1
  subst e2
  refine ⟨⟨fun a i x h hm => va_Nw.of rfl (htb _ hm), fun C T hm => va_Nw.of rfl (htb _ hm), fun x hm => va_Nw.of rfl (htb _ hm), va_Nc.of (hs _ (by decide +kernel))⟩, hS, ⟨vk_R.of (hts _ (by decide +kernel)) (hE 0 (by decide)), vk_R.of (hts _ (by decide +kernel)) (hE 1 (by decide)), vk_R.of (hts _ (by decide +kernel)) (hE 2 (by decide)), vk_R.of (hts _ (by decide +kernel)) (hE 3 (by decide)), vk_R.of (hts _ (by decide +kernel)) (hE 4 (by decide))⟩, ?_, ?_, ?_, ?_⟩
  · exact va_Zof (hts _ (by decide +kernel)) (hts _ (by decide +kernel)) (va_eqt (hs (.eq (.static "java/lang/String" "COMPACT_STRINGS" "Z") (.int 1)) (by decide +kernel))) hA
  · exact vx_Zqof (hts _ (by decide +kernel)) (hts _ (by decide +kernel)) (hs _ (by decide +kernel)) hA
  · exact vx_Zqof (hts _ (by decide +kernel)) (hts _ (by decide +kernel)) (hs _ (by decide +kernel)) hA
  · exact va_Zqof (hts _ (by decide +kernel)) (hts _ (by decide +kernel)) (hs _ (by decide +kernel)) hA
