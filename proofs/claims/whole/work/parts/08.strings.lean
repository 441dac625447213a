/-! ===== String constants: length and charAt, over the JDK's own code ===== -/
abbrev y_Sl : MethodName := ⟨"java/lang/String", "length", "()I"⟩
abbrev y_Sc : MethodName := ⟨"java/lang/String", "coder", "()B"⟩
abbrev y_Sa : MethodName := ⟨"java/lang/String", "charAt", "(I)C"⟩
abbrev y_Si : MethodName := ⟨"java/lang/String", "isLatin1", "()Z"⟩
abbrev y_S1 : MethodName := ⟨"java/lang/StringLatin1", "charAt", "([BI)C"⟩
abbrev y_Sk : MethodName := ⟨"java/lang/String", "checkIndex", "(II)V"⟩
abbrev y_Pk : MethodName := ⟨"jdk/internal/util/Preconditions", "checkIndex", "(IILjava/util/function/BiFunction;)I"⟩
theorem mo_Sl : mOK y_Sl prog_22_method_54_code 1 (some .int) 0 := ⟨t_670, t_19, ⟨by decide, by decide, by decide +kernel⟩, by decide⟩
theorem mo_Sc : mOK y_Sc prog_22_method_152_code 1 (some .byte) 0 := ⟨t_674, t_19, ⟨by decide, by decide, by decide +kernel⟩, by decide⟩
theorem mo_Sa : mOK y_Sa prog_22_method_56_code 2 (some .char) 1 := ⟨t_680, t_19, ⟨by decide, by decide, by decide +kernel⟩, by decide⟩
theorem mo_Si : mOK y_Si prog_22_method_154_code 1 (some .boolean) 0 := ⟨t_684, t_19, ⟨by decide, by decide, by decide +kernel⟩, by decide⟩
theorem mo_S1 : mOK y_S1 prog_23_method_2_code 2 (some .char) 2 := ⟨t_687, t_20, ⟨by decide, by decide, by decide +kernel⟩, by decide⟩
theorem mo_Sk : mOK y_Sk prog_22_method_155_code 2 none 2 := ⟨t_690, t_19, ⟨by decide, by decide, by decide +kernel⟩, by decide⟩
theorem mo_Pk : mOK y_Pk prog_29_method_11_code 3 (some .int) 3 := ⟨t_695, t_21, ⟨by decide, by decide, by decide +kernel⟩, by decide⟩
section STR
variable {l : Launch} {G : Gz} {X : Cx} {b : ByteArray} {nL k pc : Nat} {own : String} {σ σ' : St} {ls ls' : List (Nat × Value)} {st : List Value}
theorem j_ldcs (hx : Gd G X b nL own k) {index q : Nat} {tx : String} (hv : vk_R own index tx q (xs X)) (d : decode b pc = .ok (.ldc index, 2)) (K : J l G X nL σ (pc + 2) ls (.ref q :: st)) : J l G X nL σ pc ls st :=
  fun H locs la hz hl => va_ldcS hx.1 hx.2.1 hx.2.2.2.1 hv d (K H locs la hz hl)
theorem j_ldcs1 (hx : Gd G X b nL "DonkeyLight$Coast" k) (d : decode b pc = .ok (.ldc 78, 2)) (K : J l G X nL σ (pc + 2) ls (.ref (G.2.2.2.2.1 1) :: st)) : J l G X nL σ pc ls st := j_ldcs hx hx.2.2.2.2.2.2.2.2.2.2.2.1.2.1 d K
theorem j_ldcs2 (hx : Gd G X b nL "DonkeyLight$Law" k) (d : decode b pc = .ok (.ldc 112, 2)) (K : J l G X nL σ (pc + 2) ls (.ref (G.2.2.2.2.1 2) :: st)) : J l G X nL σ pc ls st := j_ldcs hx hx.2.2.2.2.2.2.2.2.2.2.2.1.2.2.1 d K
theorem j_ldcs3 (hx : Gd G X b nL "DonkeyLight$Work" k) (d : decode b pc = .ok (.ldc 63, 2)) (K : J l G X nL σ (pc + 2) ls (.ref (G.2.2.2.2.1 3) :: st)) : J l G X nL σ pc ls st := j_ldcs hx hx.2.2.2.2.2.2.2.2.2.2.2.1.2.2.2.1 d K
theorem zstr (hx : Gd G X b nL own k) : vk_S 5 zslen zsbyt G.2.2.2.2.1 G.2.2.2.2.2 (zA G (xs X).heap.size) (xs X) (xs X).heap := hx.2.2.2.2.2.2.2.2.2.2.1
theorem j_compact (hx : Gd G X b nL "java/lang/String" k) (d : decode b pc = .ok (.getstatic 38, 3)) (K : J l G X nL σ (pc + 3) ls (.int 1 :: st)) : J l G X nL σ pc ls st :=
  fun H locs la hz hl => va_gets hx.1 hx.2.1 hx.2.2.2.2.2.2.2.2.2.2.2.2.1 hz.2 hx.2.2.2.1 (hx.2.2.2.2.1 _ t_675) (fun _ h => h) d (K H locs la hz hl)
theorem j_scoder (hx : Gd G X b nL "java/lang/String" k) {i : Nat} (hi : i < 5) (d : decode b pc = .ok (.getfield 15, 3)) (K : J l G X nL σ (pc + 3) ls (.int 0 :: st)) : J l G X nL σ pc ls (.ref (G.2.2.2.2.1 i) :: st) :=
  fun H locs la hz hl => vk_getf hx.1 hx.2.1 ((zstr hx).1 i hi).2.1 hz.2 hx.2.2.2.1 (hx.2.2.2.2.1 _ t_1999) (fun _ h => h) d (K H locs la hz hl)
theorem j_sval (hx : Gd G X b nL "java/lang/String" k) {i : Nat} (hi : i < 5) (d : decode b pc = .ok (.getfield 9, 3)) (K : J l G X nL σ (pc + 3) ls (.ref (G.2.2.2.2.2 i) :: st)) : J l G X nL σ pc ls (.ref (G.2.2.2.2.1 i) :: st) :=
  fun H locs la hz hl => vk_getf hx.1 hx.2.1 ((zstr hx).1 i hi).2.2.1 hz.2 hx.2.2.2.1 (hx.2.2.2.2.1 _ t_1998) (fun _ h => h) d (K H locs la hz hl)
theorem j_salen (hx : Gd G X b nL own k) {i : Nat} (hi : i < 5) (d : decode b pc = .ok (.arraylength, 1)) (K : J l G X nL σ (pc + 1) ls (.int (Int32.ofNat (zslen.getD i 0)) :: st)) : J l G X nL σ pc ls (.ref (G.2.2.2.2.2 i) :: st) :=
  fun H locs la hz hl => va_tlen hx.1 hx.2.1 ((zstr hx).1 i hi).2.2.2 hz.2 rfl d (K H locs la hz hl)
theorem j_sbald (hx : Gd G X b nL own k) {i : Nat} {j : Int32} (hi : i < 5) (hj : vp_in j (zslen.getD i 0)) (d : decode b pc = .ok (.baload, 1)) (K : J l G X nL σ (pc + 1) ls (.int ((zsbyt.getD i []).getD j.toNatClampNeg 0) :: st)) : J l G X nL σ pc ls (.int j :: .ref (G.2.2.2.2.2 i) :: st) :=
  fun H locs la hz hl => va_tb hx.1 hx.2.1 ((zstr hx).1 i hi).2.2.2 hz.2 hj rfl d (K H locs la hz hl)
theorem zrunT {H : Heap} {locs : List Loc} {y : MethodName} {b' : ByteArray} {nL' n k' index i pc : Nat} {ret : Option FieldType} {As st rest : List Value} {la : Array Slot} {Qc : Array Value → State → Outcome → State → Prop} (hx : Gd G X b nL own k) (hz : zW G X σ H locs) (hla : la.size = nL)
    (hM : Met l y (.code y b' nL' ret :: TB) (rmK k') (va_Pc (.ref (G.2.2.2.2.1 i) :: As) (zB G σ H.size)) Qc 0 0 (zA G H.size)) (m1 : mOK y b' nL' ret n) (m2 : mV y) (t : Cond.methodLink own index y ∈ TB) (hk : k' < k) (hn : As.length = n)
    (hi : i < 5) (hc : y.cls = "java/lang/String") (hst : st = As.reverse ++ .ref (G.2.2.2.2.1 i) :: rest) (hcat : (rest.map fun v => v.category).sum ≤ 8) (d : decode b pc = .ok (.invokevirtual index, 3)) :
    va_Run (xp X) l (xe X) (xR X) (xs X) (xm X) (xa X) (xb X) (xh X) (xc X) H locs 0 0 0 0 (F0 (xm X) pc la st) rest (Qc (Value.ref (G.2.2.2.2.1 i) :: As).toArray) (zA G H.size) := by
  have hp : PreV (xs X) H y.cls (G.2.2.2.2.1 i) (va_Pc (.ref (G.2.2.2.2.1 i) :: As) (zB G σ H.size)) As := ⟨zB_blind, by rw [hc]; exact vk_recv (zstr hx) hi hz.2, fun U hU hW => ⟨rfl, zBof hx hz hU hW⟩⟩
  exact va_runV (zfix hx) hM (zcw hx m1 m2 t hk) hp rfl hn hla hst (lv_room hcat) d ⟨Nat.zero_le _, Nat.zero_le _⟩
theorem j_callTi (hx : Gd G X b nL own k) {y : MethodName} {b' : ByteArray} {nL' n k' index i : Nat} {ty : FieldType} {r : Int32} {As rest : List Value} (hM : MI l G y b' nL' ty k' (.ref (G.2.2.2.2.1 i) :: As) σ r σ') (m1 : mOK y b' nL' (some ty) n) (m2 : mV y) (t : Cond.methodLink own index y ∈ TB) (hk : k' < k) (hn : As.length = n) (hi : i < 5) (hc : y.cls = "java/lang/String") (hst : st = As.reverse ++ .ref (G.2.2.2.2.1 i) :: rest) (hcat : (rest.map fun v => v.category).sum ≤ 8) (d : decode b pc = .ok (.invokevirtual index, 3)) (K : J l G X nL σ' (pc + 3) ls (.int r :: rest)) : J l G X nL σ pc ls st := by
  intro H locs la hz hl
  refine va_calli (zrunT hx hz hl.1 (hM H.size) m1 m2 t hk hn hi hc hst hcat d) hz.2 (fun q _ h => zafter hz.2 q h) (zafter hz.2) (fun r' u t H1 locs1 ht hvm hw hB hz1 hk1 hS => ?_)
  obtain ⟨rfl, rfl⟩ := hw
  rw [ht] at hB
  exact K H1 locs1 la ⟨hB, hS⟩ hl
/-- SIOOBE_FORMATTER: null or something -/
theorem j_siobe (hx : Gd G X b nL "java/lang/String" k) (d : decode b pc = .ok (.getstatic 1053, 3)) (K : ∀ r : Option Nat, J l G X nL σ (pc + 3) ls (va_rf r :: st)) : J l G X nL σ pc ls st := by
  intro H locs la hz hl
  rcases hx.2.2.2.2.2.2.2.2.2.2.2.2.2.2.2 with h | ⟨t, h⟩
  · exact va_gets hx.1 hx.2.1 h hz.2 hx.2.2.2.1 (hx.2.2.2.2.1 _ t_691) (fun _ h => h) d (K none H locs la hz hl)
  · exact va_gets hx.1 hx.2.1 h hz.2 hx.2.2.2.1 (hx.2.2.2.2.1 _ t_691) (fun _ h => h) d (K (some t) H locs la hz hl)
end STR
theorem mv_Sl : mV y_Sl := ⟨t_668, t_669⟩
theorem mv_Sc : mV y_Sc := ⟨t_672, t_673⟩
theorem mv_Sa : mV y_Sa := ⟨t_678, t_679⟩
theorem mv_Si : mV y_Si := ⟨t_682, t_683⟩
theorem e_Sl_0 : decode prog_22_method_54_code 0 = .ok (.aload_n 0, 1) := by decide +kernel
theorem e_Sl_1 : decode prog_22_method_54_code 1 = .ok (.getfield 9, 3) := by decide +kernel
theorem e_Sl_4 : decode prog_22_method_54_code 4 = .ok (.arraylength, 1) := by decide +kernel
theorem e_Sl_5 : decode prog_22_method_54_code 5 = .ok (.aload_n 0, 1) := by decide +kernel
theorem e_Sl_6 : decode prog_22_method_54_code 6 = .ok (.invokevirtual 335, 3) := by decide +kernel
theorem e_Sl_9 : decode prog_22_method_54_code 9 = .ok (.ishr, 1) := by decide +kernel
theorem e_Sl_10 : decode prog_22_method_54_code 10 = .ok (.ireturn, 1) := by decide +kernel
theorem e_Sc_0 : decode prog_22_method_152_code 0 = .ok (.getstatic 38, 3) := by decide +kernel
theorem e_Sc_3 : decode prog_22_method_152_code 3 = .ok (.ifCond .eq 10, 3) := by decide +kernel
theorem e_Sc_6 : decode prog_22_method_152_code 6 = .ok (.aload_n 0, 1) := by decide +kernel
theorem e_Sc_7 : decode prog_22_method_152_code 7 = .ok (.getfield 15, 3) := by decide +kernel
theorem e_Sc_10 : decode prog_22_method_152_code 10 = .ok (.goto 4, 3) := by decide +kernel
theorem e_Sc_13 : decode prog_22_method_152_code 13 = .ok (.iconst 1, 1) := by decide +kernel
theorem e_Sc_14 : decode prog_22_method_152_code 14 = .ok (.ireturn, 1) := by decide +kernel
theorem e_Sa_0 : decode prog_22_method_56_code 0 = .ok (.aload_n 0, 1) := by decide +kernel
theorem e_Sa_1 : decode prog_22_method_56_code 1 = .ok (.invokevirtual 492, 3) := by decide +kernel
theorem e_Sa_4 : decode prog_22_method_56_code 4 = .ok (.ifCond .eq 12, 3) := by decide +kernel
theorem e_Sa_7 : decode prog_22_method_56_code 7 = .ok (.aload_n 0, 1) := by decide +kernel
theorem e_Sa_8 : decode prog_22_method_56_code 8 = .ok (.getfield 9, 3) := by decide +kernel
theorem e_Sa_11 : decode prog_22_method_56_code 11 = .ok (.iload_n 1, 1) := by decide +kernel
theorem e_Sa_12 : decode prog_22_method_56_code 12 = .ok (.invokestatic 495, 3) := by decide +kernel
theorem e_Sa_15 : decode prog_22_method_56_code 15 = .ok (.ireturn, 1) := by decide +kernel
theorem e_Sa_16 : decode prog_22_method_56_code 16 = .ok (.aload_n 0, 1) := by decide +kernel
theorem e_Sa_17 : decode prog_22_method_56_code 17 = .ok (.getfield 9, 3) := by decide +kernel
theorem e_Sa_20 : decode prog_22_method_56_code 20 = .ok (.iload_n 1, 1) := by decide +kernel
theorem e_Sa_21 : decode prog_22_method_56_code 21 = .ok (.invokestatic 498, 3) := by decide +kernel
theorem e_Sa_24 : decode prog_22_method_56_code 24 = .ok (.ireturn, 1) := by decide +kernel
theorem e_Si_0 : decode prog_22_method_154_code 0 = .ok (.getstatic 38, 3) := by decide +kernel
theorem e_Si_3 : decode prog_22_method_154_code 3 = .ok (.ifCond .eq 14, 3) := by decide +kernel
theorem e_Si_6 : decode prog_22_method_154_code 6 = .ok (.aload_n 0, 1) := by decide +kernel
theorem e_Si_7 : decode prog_22_method_154_code 7 = .ok (.getfield 15, 3) := by decide +kernel
theorem e_Si_10 : decode prog_22_method_154_code 10 = .ok (.ifCond .ne 7, 3) := by decide +kernel
theorem e_Si_13 : decode prog_22_method_154_code 13 = .ok (.iconst 1, 1) := by decide +kernel
theorem e_Si_14 : decode prog_22_method_154_code 14 = .ok (.goto 4, 3) := by decide +kernel
theorem e_Si_17 : decode prog_22_method_154_code 17 = .ok (.iconst 0, 1) := by decide +kernel
theorem e_Si_18 : decode prog_22_method_154_code 18 = .ok (.ireturn, 1) := by decide +kernel
theorem e_S1_0 : decode prog_23_method_2_code 0 = .ok (.iload_n 1, 1) := by decide +kernel
theorem e_S1_1 : decode prog_23_method_2_code 1 = .ok (.aload_n 0, 1) := by decide +kernel
theorem e_S1_2 : decode prog_23_method_2_code 2 = .ok (.arraylength, 1) := by decide +kernel
theorem e_S1_3 : decode prog_23_method_2_code 3 = .ok (.invokestatic 9, 3) := by decide +kernel
theorem e_S1_6 : decode prog_23_method_2_code 6 = .ok (.aload_n 0, 1) := by decide +kernel
theorem e_S1_7 : decode prog_23_method_2_code 7 = .ok (.iload_n 1, 1) := by decide +kernel
theorem e_S1_8 : decode prog_23_method_2_code 8 = .ok (.baload, 1) := by decide +kernel
theorem e_S1_9 : decode prog_23_method_2_code 9 = .ok (.sipush 255, 3) := by decide +kernel
theorem e_S1_12 : decode prog_23_method_2_code 12 = .ok (.iand, 1) := by decide +kernel
theorem e_S1_13 : decode prog_23_method_2_code 13 = .ok (.i2c, 1) := by decide +kernel
theorem e_S1_14 : decode prog_23_method_2_code 14 = .ok (.ireturn, 1) := by decide +kernel
theorem e_Sk_0 : decode prog_22_method_155_code 0 = .ok (.iload_n 0, 1) := by decide +kernel
theorem e_Sk_1 : decode prog_22_method_155_code 1 = .ok (.iload_n 1, 1) := by decide +kernel
theorem e_Sk_2 : decode prog_22_method_155_code 2 = .ok (.getstatic 1053, 3) := by decide +kernel
theorem e_Sk_5 : decode prog_22_method_155_code 5 = .ok (.invokestatic 1059, 3) := by decide +kernel
theorem e_Sk_8 : decode prog_22_method_155_code 8 = .ok (.pop, 1) := by decide +kernel
theorem e_Sk_9 : decode prog_22_method_155_code 9 = .ok (.return_, 1) := by decide +kernel
theorem e_Pk_0 : decode prog_29_method_11_code 0 = .ok (.iload_n 0, 1) := by decide +kernel
theorem e_Pk_1 : decode prog_29_method_11_code 1 = .ok (.ifCond .lt 8, 3) := by decide +kernel
theorem e_Pk_4 : decode prog_29_method_11_code 4 = .ok (.iload_n 0, 1) := by decide +kernel
theorem e_Pk_5 : decode prog_29_method_11_code 5 = .ok (.iload_n 1, 1) := by decide +kernel
theorem e_Pk_6 : decode prog_29_method_11_code 6 = .ok (.if_icmp .lt 10, 3) := by decide +kernel
theorem e_Pk_9 : decode prog_29_method_11_code 9 = .ok (.aload_n 2, 1) := by decide +kernel
theorem e_Pk_10 : decode prog_29_method_11_code 10 = .ok (.iload_n 0, 1) := by decide +kernel
theorem e_Pk_11 : decode prog_29_method_11_code 11 = .ok (.iload_n 1, 1) := by decide +kernel
theorem e_Pk_12 : decode prog_29_method_11_code 12 = .ok (.invokestatic 95, 3) := by decide +kernel
theorem e_Pk_15 : decode prog_29_method_11_code 15 = .ok (.athrow, 1) := by decide +kernel
theorem e_Pk_16 : decode prog_29_method_11_code 16 = .ok (.iload_n 0, 1) := by decide +kernel
theorem e_Pk_17 : decode prog_29_method_11_code 17 = .ok (.ireturn, 1) := by decide +kernel
theorem c_Sc {l : Launch} {G : Gz} (hG : zI G) (σ : St) {i : Nat} (hi : i < 5) : MI l G y_Sc prog_22_method_152_code 1 .byte 1 [.ref (G.2.2.2.2.1 i)] σ 0 σ := by
  refine MI.of hG (by decide) (Nat.le_of_ble_eq_true rfl) (fun X hx hq => ?_)
  show J l G X 1 σ 0 [(0, .ref (G.2.2.2.2.1 i))] []
  refine j_compact hx e_Sc_0 ?_
  refine j_if_eq (tgt := 13) hx e_Sc_3 (by decide) (fun h => absurd h (by decide)) (fun _ => ?_)
  refine j_aload_n hx e_Sc_6 rfl 0 rfl ?_
  refine j_scoder hx hi e_Sc_7 ?_
  refine j_goto (tgt := 14) hx e_Sc_10 (by decide) ?_
  exact j_iret hx hq rfl e_Sc_14 rfl rfl
theorem c_Si {l : Launch} {G : Gz} (hG : zI G) (σ : St) {i : Nat} (hi : i < 5) : MI l G y_Si prog_22_method_154_code 1 .boolean 1 [.ref (G.2.2.2.2.1 i)] σ 1 σ := by
  refine MI.of hG (by decide) (Nat.le_of_ble_eq_true rfl) (fun X hx hq => ?_)
  show J l G X 1 σ 0 [(0, .ref (G.2.2.2.2.1 i))] []
  refine j_compact hx e_Si_0 ?_
  refine j_if_eq (tgt := 17) hx e_Si_3 (by decide) (fun h => absurd h (by decide)) (fun _ => ?_)
  refine j_aload_n hx e_Si_6 rfl 0 rfl ?_
  refine j_scoder hx hi e_Si_7 ?_
  refine j_if_ne (tgt := 17) hx e_Si_10 (by decide) (fun h => absurd rfl h) (fun _ => ?_)
  refine j_iconst (v := 1) hx e_Si_13 (by decide) ?_
  refine j_goto (tgt := 18) hx e_Si_14 (by decide) ?_
  exact j_iret hx hq rfl e_Si_18 rfl rfl
theorem c_Sl {l : Launch} {G : Gz} (hG : zI G) (σ : St) {i : Nat} (hi : i < 5) : MI l G y_Sl prog_22_method_54_code 1 .int 2 [.ref (G.2.2.2.2.1 i)] σ (Int32.ofNat (zslen.getD i 0)) σ := by
  refine MI.of hG (by decide) (Nat.le_of_ble_eq_true rfl) (fun X hx hq => ?_)
  show J l G X 1 σ 0 [(0, .ref (G.2.2.2.2.1 i))] []
  refine j_aload_n hx e_Sl_0 rfl 0 rfl ?_
  refine j_sval hx hi e_Sl_1 ?_
  refine j_salen hx hi e_Sl_4 ?_
  refine j_aload_n hx e_Sl_5 rfl 0 rfl ?_
  refine j_callTi hx (c_Sc hG σ hi) mo_Sc mv_Sc t_671 (by decide) rfl hi rfl rfl (Nat.le_of_ble_eq_true rfl) e_Sl_6 ?_
  refine j_ishr hx e_Sl_9 ?_
  exact j_iret hx hq rfl e_Sl_10 (by simp) rfl
theorem c_Pk {l : Launch} {G : Gz} (hG : zI G) (σ : St) (j n : Int32) (r : Option Nat) (h1 : ¬ j < 0) (h2 : j < n) : MI l G y_Pk prog_29_method_11_code 3 .int 1 [.int j, .int n, va_rf r] σ j σ := by
  cases r
  all_goals
    refine MI.of hG (by decide) (Nat.le_of_ble_eq_true rfl) (fun X hx hq => ?_)
    refine J.lsub (ls' := [(0, .int j), (1, .int n)]) [0, 1] rfl ?_
    refine j_iload_n hx e_Pk_0 rfl 0 rfl ?_
    refine j_if_lt (tgt := 9) hx e_Pk_1 (by decide) (fun h => absurd h h1) (fun _ => ?_)
    refine j_iload_n hx e_Pk_4 rfl 0 rfl ?_
    refine j_iload_n hx e_Pk_5 rfl 1 rfl ?_
    refine j_icmp_lt (tgt := 16) hx e_Pk_6 (by decide) (fun _ => ?_) (fun h => absurd h2 h)
    refine j_iload_n hx e_Pk_16 rfl 0 rfl ?_
    exact j_iret hx hq rfl e_Pk_17 rfl rfl
theorem c_Sk {l : Launch} {G : Gz} (hG : zI G) (σ : St) (j n : Int32) (h1 : ¬ j < 0) (h2 : j < n) : MV l G y_Sk prog_22_method_155_code 2 2 [.int j, .int n] σ σ := by
  refine MV.of hG (by decide) (Nat.le_of_ble_eq_true rfl) (fun X hx hq => ?_)
  show J l G X 2 σ 0 [(0, .int j), (1, .int n)] []
  refine j_iload_n hx e_Sk_0 rfl 0 rfl ?_
  refine j_iload_n hx e_Sk_1 rfl 1 rfl ?_
  refine j_siobe hx e_Sk_2 (fun r => ?_)
  refine j_callSi hx (As := [.int j, .int n, va_rf r]) (rest := []) (c_Pk hG σ j n r h1 h2) mo_Pk t_694 t_693 (by decide) rfl rfl (Nat.le_of_ble_eq_true rfl) e_Sk_5 ?_
  refine j_pop hx e_Sk_8 rfl ?_
  exact j_vret hx hq e_Sk_9 rfl
def zch (i : Nat) (j : Int32) : Int32 := ((((zsbyt.getD i []).getD j.toNatClampNeg 0) &&& 255).toUInt32 % 65536).toInt32
theorem c_S1 {l : Launch} {G : Gz} (hG : zI G) (σ : St) (j : Int32) {i : Nat} (hi : i < 5) (h1 : ¬ j < 0) (h2 : j < Int32.ofNat (zslen.getD i 0)) (h3 : vp_in j (zslen.getD i 0)) (h4 : narrow .char (.int (zch i j)) = .int (zch i j)) : MI l G y_S1 prog_23_method_2_code 2 .char 3 [.ref (G.2.2.2.2.2 i), .int j] σ (zch i j) σ := by
  refine MI.of hG (by decide) (Nat.le_of_ble_eq_true rfl) (fun X hx hq => ?_)
  show J l G X 2 σ 0 [(0, .ref (G.2.2.2.2.2 i)), (1, .int j)] []
  refine j_iload_n hx e_S1_0 rfl 1 rfl ?_
  refine j_aload_n hx e_S1_1 rfl 0 rfl ?_
  refine j_salen hx hi e_S1_2 ?_
  refine j_callSv hx (As := [.int j, .int (Int32.ofNat (zslen.getD i 0))]) (rest := []) (c_Sk hG σ j (Int32.ofNat (zslen.getD i 0)) h1 h2) mo_Sk t_689 t_688 (by decide) rfl rfl (Nat.le_of_ble_eq_true rfl) e_S1_3 ?_
  refine j_aload_n hx e_S1_6 rfl 0 rfl ?_
  refine j_iload_n hx e_S1_7 rfl 1 rfl ?_
  refine j_sbald hx hi h3 e_S1_8 ?_
  refine j_sipush (v := 255) hx e_S1_9 (by decide) ?_
  refine j_iand hx e_S1_12 ?_
  refine j_i2c hx e_S1_13 rfl ?_
  exact j_iret hx hq h4 e_S1_14 rfl rfl
theorem c_Sa {l : Launch} {G : Gz} (hG : zI G) (σ : St) (j : Int32) {i : Nat} (hi : i < 5) (h1 : ¬ j < 0) (h2 : j < Int32.ofNat (zslen.getD i 0)) (h3 : vp_in j (zslen.getD i 0)) (h4 : narrow .char (.int (zch i j)) = .int (zch i j)) : MI l G y_Sa prog_22_method_56_code 2 .char 4 [.ref (G.2.2.2.2.1 i), .int j] σ (zch i j) σ := by
  refine MI.of hG (by decide) (Nat.le_of_ble_eq_true rfl) (fun X hx hq => ?_)
  show J l G X 2 σ 0 [(0, .ref (G.2.2.2.2.1 i)), (1, .int j)] []
  refine j_aload_n hx e_Sa_0 rfl 0 rfl ?_
  refine j_callTi hx (As := []) (rest := []) (c_Si hG σ hi) mo_Si mv_Si t_681 (by decide) rfl hi rfl rfl (Nat.le_of_ble_eq_true rfl) e_Sa_1 ?_
  refine j_if_eq (tgt := 16) hx e_Sa_4 (by decide) (fun h => absurd h (by decide)) (fun _ => ?_)
  refine j_aload_n hx e_Sa_7 rfl 0 rfl ?_
  refine j_sval hx hi e_Sa_8 ?_
  refine j_iload_n hx e_Sa_11 rfl 1 rfl ?_
  refine j_callSi hx (As := [.ref (G.2.2.2.2.2 i), .int j]) (rest := []) (c_S1 hG σ j hi h1 h2 h3 h4) mo_S1 t_686 t_685 (by decide) rfl rfl (Nat.le_of_ble_eq_true rfl) e_Sa_12 ?_
  exact j_iret hx hq h4 e_Sa_15 rfl rfl
