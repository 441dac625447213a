/-! THE CLASS'S CONSTRUCTORS -/
def ι1 : St := up (up (up (up nul 111 3 (-1)) 1 6 (-1)) 4 11 2) 27 11 2
/-- the objects of the class, newly made -/
def ι : St := lrs (lrs ι1 50) 59
theorem emt_q {s : St} {o kd num q : Nat} {a b : Int32} (h1 : q ≠ o) (h2 : q ≠ o + 2) (h3 : q ≠ o + 4) : emt s o a b q = s q := by
  have e : ∀ (x : St) (r n : Nat) (i v : Int32), q ≠ r + 1 → rs x r n i v q = x q := fun x r n i v h => by unfold rs; split; exact up_o h; rfl
  unfold emt; rw [up_o h1, e _ _ _ _ _ (by omega), e _ _ _ _ _ (by omega)]
theorem lrs_q {s : St} {o q : Nat} (h1 : q ≠ o) (h2 : q ≠ o + 2) (h3 : q ≠ o + 4) : lrs s o q = s q := by
  unfold lrs; rw [emt_q (kd := 0) (num := 0) h1 h2 h3, emt_q (kd := 0) (num := 0) h1 h2 h3, emt_q (kd := 0) (num := 0) h1 h2 h3, up_o h1]
theorem ι_q {q : Nat} (h : q < 50 ∨ (54 < q ∧ q < 59) ∨ 63 < q ∨ q = 51 ∨ q = 53 ∨ q = 60 ∨ q = 62) : ι q = ι1 q := by
  unfold ι; rw [lrs_q (by omega) (by omega) (by omega), lrs_q (by omega) (by omega) (by omega)]
theorem hcon_of {G : Gz} (hg : ∀ k, k < 112 → G.1 k = G.1 0 + k) (o n : Nat) (h : o + n ≤ 112) : ∀ j, j < n → G.1 (o + j) = G.1 o + j := fun j hj => by rw [hg (o + j) (by omega), hg o (by omega), Nat.add_assoc]
theorem zIp_of {G : Gz} (hg : ∀ k, k < 112 → G.1 k = G.1 0 + k) (o n : Nat) (h : o + n ≤ 112) : zIp G o (o + n) := fun i j hi hj e => by
  rw [hg i (by omega), hg j (by omega)] at e; omega
section JCR
variable {l : Launch} {G : Gz} {X : Cx} {b : ByteArray} {nL k pc : Nat} {own : String} {τ τ' : St} {o NN C S : Nat} {E : va_E} {p c9 n9 : Nat} {ls : List (Nat × Value)}
/-- a method called on the finished object, all of whose parts stand -/
theorem jc_reset (hx : Gk G X b nL own k (fun j => o + j) NN C S) {y : MethodName} {b' : ByteArray} {nL' k' index : Nat} {T : u_T} {N ci : Nat} {fs : List Value} {rest : List Value} (hM : MP l G y b' nL' k' [.ref (G.1 o)] o (o + p) τ τ') (m1 : mOK y b' nL' none 0) (m2 : mV y) (t : Cond.methodLink own index y ∈ TB) (hk : k' < k) (he : zs G o (τ o) = .inr (ci, fs)) (hc : zcl[ci]? = some (y.cls, T, N)) (hE : E = zs G o (τ o)) (hst : rest = []) (hp : 1 ≤ p) (hpn : p ≤ NN) (d : decode b pc = .ok (.invokevirtual index, 3)) (hr9 : c9 ≤ C ∧ n9 ≤ S) (K : JC l G X nL τ' (fun j => o + j) (zs G o (τ' o)) p none c9 n9 (pc + 3) ls rest) : JC l G X nL τ (fun j => o + j) E p none c9 n9 pc ls (.ref (G.1 o) :: rest) := by
  intro H locs la hz hl
  subst hst
  obtain ⟨h1, h2, h3, h4, h5, h6, h7, h8, h9, h10, h11, h12, h13, h14⟩ := hx
  have hP : va_P G.2.1 zcl (zwp G o (o + p) τ) H := fun q x hq => by
    obtain ⟨hh, rfl⟩ := zwp_inv hq
    by_cases h0 : q = 0
    · subst h0
      have := hz.1.1
      rw [hE] at this
      exact this
    · exact hz.1.2.1 q (by omega) (by omega)
  have hpv : PreV (xs X) H y.cls (G.1 o) (va_Pc [.ref (G.1 o)] (zBp G o (o + p) τ)) [] := ⟨zBp_blind, va_recv h8 hP hc (zwp_get' (o := o) ⟨Nat.le_refl _, by omega⟩ he), fun U hU hW => ⟨rfl, by rw [hU]; exact hP, va_K.moved hW.alike h8⟩⟩
  have cw : CallW (xR X) (xs X) (xa X) own y.cls index y b' nL' none (.code y b' nL' none :: TB) (rmK k') 0 0 0 := ⟨callB_of 0 h5 (goodTB m1.1) rfl rfl rfl (h5 _ m1.2.1) (h5 _ t) m1.2.2.1 (zroom h7 hk m1.2.2.2), h5 _ m2.1, h5 _ m2.2⟩
  have hr : va_Run (xp X) l (xe X) (xR X) (xs X) (xm X) (xa X) (xb X) (xh X) (xc X) H locs c9 n9 0 0 (F0 (xm X) pc la [.ref (G.1 o)]) [] (zQp G o (o + p) τ' [Value.ref (G.1 o)].toArray) (zAp G o (o + p)) := va_runV (As := []) (rest := []) ⟨h1, h2, h3, h4, h5⟩ hM cw hpv rfl rfl hl.1 rfl (lv_room (Nat.zero_le _)) d ⟨by rw [h13]; exact hr9.1, by rw [h14]; exact hr9.2⟩
  have hA : ∀ q, zAp G o (o + p) q → G.1 (o + 0) ≤ q := fun q ⟨x, hx9, e⟩ => by
    have e2 : G.1 (o + (x - o)) = G.1 (o + 0) + (x - o) := h11 (x - o) (by omega)
    rw [show o + (x - o) = x by omega] at e2
    omega
  refine va_callv hr hz.2 (fun q _ h => hA q h) (fun q h => hA q h) (fun u t H1 locs1 ht hvm hw hB hz1 hk1 hS => ?_)
  obtain rfl := hw
  rw [ht] at hB
  have at9 : ∀ j, j < p → va_at G.2.1 zcl (G.1 (o + j), zs G (o + j) (u (o + j))) H1 := fun j hj => hB _ _ (zwp_get (o := o + j) ⟨by omega, by omega⟩)
  exact K H1 locs1 la ⟨⟨at9 0 (by omega), fun j _ hj => at9 j hj, fun ci' e => by cases e⟩, hS⟩ hl
end JCR
theorem zbl_0 : zbl 0 T_Coast 12 := by unfold zbl; decide +kernel
theorem zbl_1 : zbl 1 T_FlashLog 2 := by unfold zbl; decide +kernel
theorem zbl_2 : zbl 2 T_History 5 := by unfold zbl; decide +kernel
theorem zbl_3 : zbl 3 T_Law 5 := by unfold zbl; decide +kernel
theorem zbl_4 : zbl 4 T_Nights 1 := by unfold zbl; decide +kernel
theorem zbl_5 : zbl 5 T_Passing 4 := by unfold zbl; decide +kernel
theorem zbl_6 : zbl 6 T_Plans 6 := by unfold zbl; decide +kernel
theorem zbl_8 : zbl 8 T_Tape 7 := by unfold zbl; decide +kernel
theorem zbl_9 : zbl 9 T_Winter 3 := by unfold zbl; decide +kernel
theorem zbl_10 : zbl 10 T_Work 7 := by unfold zbl; decide +kernel
theorem zbl_11 : zbl 11 T_DL 17 := by unfold zbl; decide +kernel
theorem CC_Tape_1 {l : Launch} {G : Gz} (hg : ∀ k, k < 112 → G.1 k = G.1 0 + k) : CC l G y_Tape_init prog_10_method_1_code 1 8 3 601 [] 1 3 ι1 := by
  refine CC.of ι1 (hcon_of hg 1 3 (by decide)) (by decide) rfl (Nat.le_of_ble_eq_true rfl) (fun X hx hq => ?_)
  refine jc_aload_n hx d_Tape_init_0 rfl 0 rfl ?_
  refine jc_obj hx t_37 t_30 t_oc (by decide) rfl d_Tape_init_1 ?_
  refine jc_aload_n hx d_Tape_init_4 rfl 0 rfl ?_
  refine jc_new hx ck_Row zbl_7 t_38 t_39 t_3 (by decide) (by decide) rfl (by decide) (by decide) d_Tape_init_5 ?_
  refine jc_dup hx d_Tape_init_8 rfl ?_
  refine jc_sipush (v := 600) hx d_Tape_init_9 (by decide) ?_
  refine jc_init hx (CC_Row (o := 2) (n := 600) (hcon_of hg 2 2 (by decide)) ir_2 rfl (by decide) (by decide)) mo_Row_init t_41 t_40 rfl (by decide) rfl rfl (Nat.le_of_ble_eq_true rfl) (by decide) (by decide) (by decide) (fun j _ => (Nat.add_assoc 1 1 j).symm) rfl (by decide) (by decide) d_Tape_init_12 ?_
  refine jc_putF (ty := .object "DonkeyLight$Row") hx ck_Tape 0 (by decide) t_52 rfl rfl (by decide +kernel) rfl rfl (Nat.le_of_ble_eq_true rfl) rfl d_Tape_init_15 (fun j _ h => Nat.lt_of_lt_of_le h (by decide)) rfl ?_
  refine jc_aload_n hx d_Tape_init_18 rfl 0 rfl ?_
  refine jc_iconst (v := -1) hx d_Tape_init_19 (by decide) ?_
  refine jc_putI hx ck_Tape 6 (by decide) t_58 rfl (Nat.le_of_ble_eq_true rfl) rfl d_Tape_init_20 (fun j _ h => Nat.lt_of_lt_of_le h (by decide)) rfl ?_
  exact jc_vret hx hq d_Tape_init_23 (by exact (sh_1 G (ι1 1)).symm) (fun _ _ => rfl) rfl rfl
theorem CC_Coast_4 {l : Launch} {G : Gz} (hg : ∀ k, k < 112 → G.1 k = G.1 0 + k) : CC l G y_Coast_init prog_2_method_1_code 1 0 3 77 [] 4 23 ι1 := by
  refine CC.of ι1 (hcon_of hg 4 23 (by decide)) (by decide) rfl (Nat.le_of_ble_eq_true rfl) (fun X hx hq => ?_)
  refine jc_aload_n hx d_Coast_init_0 rfl 0 rfl ?_
  refine jc_obj hx t_79 t_30 t_oc (by decide) rfl d_Coast_init_1 ?_
  refine jc_aload_n hx d_Coast_init_4 rfl 0 rfl ?_
  refine jc_new hx ck_Row zbl_7 t_80 t_39 t_3 (by decide) (by decide) rfl (by decide) (by decide) d_Coast_init_5 ?_
  refine jc_dup hx d_Coast_init_8 rfl ?_
  refine jc_bipush (v := 6) hx d_Coast_init_9 (by decide) ?_
  refine jc_init hx (CC_Row (o := 5) (n := 6) (hcon_of hg 5 2 (by decide)) ir_5 rfl (by decide) (by decide)) mo_Row_init t_41 t_81 rfl (by decide) rfl rfl (Nat.le_of_ble_eq_true rfl) (by decide) (by decide) (by decide) (fun j _ => (Nat.add_assoc 4 1 j).symm) rfl (by decide) (by decide) d_Coast_init_11 ?_
  refine jc_putF (ty := .object "DonkeyLight$Row") hx ck_Coast 0 (by decide) t_82 rfl rfl (by decide +kernel) rfl rfl (Nat.le_of_ble_eq_true rfl) rfl d_Coast_init_14 (fun j _ h => Nat.lt_of_lt_of_le h (by decide)) rfl ?_
  refine jc_aload_n hx d_Coast_init_17 rfl 0 rfl ?_
  refine jc_new hx ck_Row zbl_7 t_80 t_39 t_3 (by decide) (by decide) rfl (by decide) (by decide) d_Coast_init_18 ?_
  refine jc_dup hx d_Coast_init_21 rfl ?_
  refine jc_bipush (v := 12) hx d_Coast_init_22 (by decide) ?_
  refine jc_init hx (CC_Row (o := 7) (n := 12) (hcon_of hg 7 2 (by decide)) ir_7 rfl (by decide) (by decide)) mo_Row_init t_41 t_81 rfl (by decide) rfl rfl (Nat.le_of_ble_eq_true rfl) (by decide) (by decide) (by decide) (fun j _ => (Nat.add_assoc 4 3 j).symm) rfl (by decide) (by decide) d_Coast_init_24 ?_
  refine jc_putF (ty := .object "DonkeyLight$Row") hx ck_Coast 1 (by decide) t_89 rfl rfl (by decide +kernel) rfl rfl (Nat.le_of_ble_eq_true rfl) rfl d_Coast_init_27 (fun j _ h => Nat.lt_of_lt_of_le h (by decide)) rfl ?_
  refine jc_aload_n hx d_Coast_init_30 rfl 0 rfl ?_
  refine jc_new hx ck_Row zbl_7 t_80 t_39 t_3 (by decide) (by decide) rfl (by decide) (by decide) d_Coast_init_31 ?_
  refine jc_dup hx d_Coast_init_34 rfl ?_
  refine jc_bipush (v := 6) hx d_Coast_init_35 (by decide) ?_
  refine jc_init hx (CC_Row (o := 9) (n := 6) (hcon_of hg 9 2 (by decide)) ir_9 rfl (by decide) (by decide)) mo_Row_init t_41 t_81 rfl (by decide) rfl rfl (Nat.le_of_ble_eq_true rfl) (by decide) (by decide) (by decide) (fun j _ => (Nat.add_assoc 4 5 j).symm) rfl (by decide) (by decide) d_Coast_init_37 ?_
  refine jc_putF (ty := .object "DonkeyLight$Row") hx ck_Coast 2 (by decide) t_91 rfl rfl (by decide +kernel) rfl rfl (Nat.le_of_ble_eq_true rfl) rfl d_Coast_init_40 (fun j _ h => Nat.lt_of_lt_of_le h (by decide)) rfl ?_
  refine jc_aload_n hx d_Coast_init_43 rfl 0 rfl ?_
  refine jc_new hx ck_Row zbl_7 t_80 t_39 t_3 (by decide) (by decide) rfl (by decide) (by decide) d_Coast_init_44 ?_
  refine jc_dup hx d_Coast_init_47 rfl ?_
  refine jc_bipush (v := 6) hx d_Coast_init_48 (by decide) ?_
  refine jc_init hx (CC_Row (o := 11) (n := 6) (hcon_of hg 11 2 (by decide)) ir_11 rfl (by decide) (by decide)) mo_Row_init t_41 t_81 rfl (by decide) rfl rfl (Nat.le_of_ble_eq_true rfl) (by decide) (by decide) (by decide) (fun j _ => (Nat.add_assoc 4 7 j).symm) rfl (by decide) (by decide) d_Coast_init_50 ?_
  refine jc_putF (ty := .object "DonkeyLight$Row") hx ck_Coast 3 (by decide) t_94 rfl rfl (by decide +kernel) rfl rfl (Nat.le_of_ble_eq_true rfl) rfl d_Coast_init_53 (fun j _ h => Nat.lt_of_lt_of_le h (by decide)) rfl ?_
  refine jc_aload_n hx d_Coast_init_56 rfl 0 rfl ?_
  refine jc_new hx ck_Row zbl_7 t_80 t_39 t_3 (by decide) (by decide) rfl (by decide) (by decide) d_Coast_init_57 ?_
  refine jc_dup hx d_Coast_init_60 rfl ?_
  refine jc_iconst (v := 3) hx d_Coast_init_61 (by decide) ?_
  refine jc_init hx (CC_Row (o := 13) (n := 3) (hcon_of hg 13 2 (by decide)) ir_13 rfl (by decide) (by decide)) mo_Row_init t_41 t_81 rfl (by decide) rfl rfl (Nat.le_of_ble_eq_true rfl) (by decide) (by decide) (by decide) (fun j _ => (Nat.add_assoc 4 9 j).symm) rfl (by decide) (by decide) d_Coast_init_62 ?_
  refine jc_putF (ty := .object "DonkeyLight$Row") hx ck_Coast 4 (by decide) t_97 rfl rfl (by decide +kernel) rfl rfl (Nat.le_of_ble_eq_true rfl) rfl d_Coast_init_65 (fun j _ h => Nat.lt_of_lt_of_le h (by decide)) rfl ?_
  refine jc_aload_n hx d_Coast_init_68 rfl 0 rfl ?_
  refine jc_new hx ck_Row zbl_7 t_80 t_39 t_3 (by decide) (by decide) rfl (by decide) (by decide) d_Coast_init_69 ?_
  refine jc_dup hx d_Coast_init_72 rfl ?_
  refine jc_iconst (v := 3) hx d_Coast_init_73 (by decide) ?_
  refine jc_init hx (CC_Row (o := 15) (n := 3) (hcon_of hg 15 2 (by decide)) ir_15 rfl (by decide) (by decide)) mo_Row_init t_41 t_81 rfl (by decide) rfl rfl (Nat.le_of_ble_eq_true rfl) (by decide) (by decide) (by decide) (fun j _ => (Nat.add_assoc 4 11 j).symm) rfl (by decide) (by decide) d_Coast_init_74 ?_
  refine jc_putF (ty := .object "DonkeyLight$Row") hx ck_Coast 5 (by decide) t_99 rfl rfl (by decide +kernel) rfl rfl (Nat.le_of_ble_eq_true rfl) rfl d_Coast_init_77 (fun j _ h => Nat.lt_of_lt_of_le h (by decide)) rfl ?_
  refine jc_aload_n hx d_Coast_init_80 rfl 0 rfl ?_
  refine jc_new hx ck_Row zbl_7 t_80 t_39 t_3 (by decide) (by decide) rfl (by decide) (by decide) d_Coast_init_81 ?_
  refine jc_dup hx d_Coast_init_84 rfl ?_
  refine jc_bipush (v := 6) hx d_Coast_init_85 (by decide) ?_
  refine jc_init hx (CC_Row (o := 17) (n := 6) (hcon_of hg 17 2 (by decide)) ir_17 rfl (by decide) (by decide)) mo_Row_init t_41 t_81 rfl (by decide) rfl rfl (Nat.le_of_ble_eq_true rfl) (by decide) (by decide) (by decide) (fun j _ => (Nat.add_assoc 4 13 j).symm) rfl (by decide) (by decide) d_Coast_init_87 ?_
  refine jc_putF (ty := .object "DonkeyLight$Row") hx ck_Coast 6 (by decide) t_103 rfl rfl (by decide +kernel) rfl rfl (Nat.le_of_ble_eq_true rfl) rfl d_Coast_init_90 (fun j _ h => Nat.lt_of_lt_of_le h (by decide)) rfl ?_
  refine jc_aload_n hx d_Coast_init_93 rfl 0 rfl ?_
  refine jc_new hx ck_Row zbl_7 t_80 t_39 t_3 (by decide) (by decide) rfl (by decide) (by decide) d_Coast_init_94 ?_
  refine jc_dup hx d_Coast_init_97 rfl ?_
  refine jc_bipush (v := 6) hx d_Coast_init_98 (by decide) ?_
  refine jc_init hx (CC_Row (o := 19) (n := 6) (hcon_of hg 19 2 (by decide)) ir_19 rfl (by decide) (by decide)) mo_Row_init t_41 t_81 rfl (by decide) rfl rfl (Nat.le_of_ble_eq_true rfl) (by decide) (by decide) (by decide) (fun j _ => (Nat.add_assoc 4 15 j).symm) rfl (by decide) (by decide) d_Coast_init_100 ?_
  refine jc_putF (ty := .object "DonkeyLight$Row") hx ck_Coast 7 (by decide) t_106 rfl rfl (by decide +kernel) rfl rfl (Nat.le_of_ble_eq_true rfl) rfl d_Coast_init_103 (fun j _ h => Nat.lt_of_lt_of_le h (by decide)) rfl ?_
  refine jc_aload_n hx d_Coast_init_106 rfl 0 rfl ?_
  refine jc_new hx ck_Row zbl_7 t_80 t_39 t_3 (by decide) (by decide) rfl (by decide) (by decide) d_Coast_init_107 ?_
  refine jc_dup hx d_Coast_init_110 rfl ?_
  refine jc_bipush (v := 6) hx d_Coast_init_111 (by decide) ?_
  refine jc_init hx (CC_Row (o := 21) (n := 6) (hcon_of hg 21 2 (by decide)) ir_21 rfl (by decide) (by decide)) mo_Row_init t_41 t_81 rfl (by decide) rfl rfl (Nat.le_of_ble_eq_true rfl) (by decide) (by decide) (by decide) (fun j _ => (Nat.add_assoc 4 17 j).symm) rfl (by decide) (by decide) d_Coast_init_113 ?_
  refine jc_putF (ty := .object "DonkeyLight$Row") hx ck_Coast 8 (by decide) t_108 rfl rfl (by decide +kernel) rfl rfl (Nat.le_of_ble_eq_true rfl) rfl d_Coast_init_116 (fun j _ h => Nat.lt_of_lt_of_le h (by decide)) rfl ?_
  refine jc_aload_n hx d_Coast_init_119 rfl 0 rfl ?_
  refine jc_new hx ck_Row zbl_7 t_80 t_39 t_3 (by decide) (by decide) rfl (by decide) (by decide) d_Coast_init_120 ?_
  refine jc_dup hx d_Coast_init_123 rfl ?_
  refine jc_bipush (v := 6) hx d_Coast_init_124 (by decide) ?_
  refine jc_init hx (CC_Row (o := 23) (n := 6) (hcon_of hg 23 2 (by decide)) ir_23 rfl (by decide) (by decide)) mo_Row_init t_41 t_81 rfl (by decide) rfl rfl (Nat.le_of_ble_eq_true rfl) (by decide) (by decide) (by decide) (fun j _ => (Nat.add_assoc 4 19 j).symm) rfl (by decide) (by decide) d_Coast_init_126 ?_
  refine jc_putF (ty := .object "DonkeyLight$Row") hx ck_Coast 9 (by decide) t_110 rfl rfl (by decide +kernel) rfl rfl (Nat.le_of_ble_eq_true rfl) rfl d_Coast_init_129 (fun j _ h => Nat.lt_of_lt_of_le h (by decide)) rfl ?_
  refine jc_aload_n hx d_Coast_init_132 rfl 0 rfl ?_
  refine jc_new hx ck_Row zbl_7 t_80 t_39 t_3 (by decide) (by decide) rfl (by decide) (by decide) d_Coast_init_133 ?_
  refine jc_dup hx d_Coast_init_136 rfl ?_
  refine jc_bipush (v := 6) hx d_Coast_init_137 (by decide) ?_
  refine jc_init hx (CC_Row (o := 25) (n := 6) (hcon_of hg 25 2 (by decide)) ir_25 rfl (by decide) (by decide)) mo_Row_init t_41 t_81 rfl (by decide) rfl rfl (Nat.le_of_ble_eq_true rfl) (by decide) (by decide) (by decide) (fun j _ => (Nat.add_assoc 4 21 j).symm) rfl (by decide) (by decide) d_Coast_init_139 ?_
  refine jc_putF (ty := .object "DonkeyLight$Row") hx ck_Coast 10 (by decide) t_112 rfl rfl (by decide +kernel) rfl rfl (Nat.le_of_ble_eq_true rfl) rfl d_Coast_init_142 (fun j _ h => Nat.lt_of_lt_of_le h (by decide)) rfl ?_
  refine jc_aload_n hx d_Coast_init_145 rfl 0 rfl ?_
  refine jc_iconst (v := 2) hx d_Coast_init_146 (by decide) ?_
  refine jc_putI hx ck_Coast 11 (by decide) t_113 rfl (Nat.le_of_ble_eq_true rfl) rfl d_Coast_init_147 (fun j _ h => Nat.lt_of_lt_of_le h (by decide)) rfl ?_
  exact jc_vret hx hq d_Coast_init_150 (by exact (sh_4 G (ι1 4)).symm) (fun _ _ => rfl) rfl rfl
theorem CC_Coast_27 {l : Launch} {G : Gz} (hg : ∀ k, k < 112 → G.1 k = G.1 0 + k) : CC l G y_Coast_init prog_2_method_1_code 1 0 3 77 [] 27 23 ι1 := by
  refine CC.of ι1 (hcon_of hg 27 23 (by decide)) (by decide) rfl (Nat.le_of_ble_eq_true rfl) (fun X hx hq => ?_)
  refine jc_aload_n hx d_Coast_init_0 rfl 0 rfl ?_
  refine jc_obj hx t_79 t_30 t_oc (by decide) rfl d_Coast_init_1 ?_
  refine jc_aload_n hx d_Coast_init_4 rfl 0 rfl ?_
  refine jc_new hx ck_Row zbl_7 t_80 t_39 t_3 (by decide) (by decide) rfl (by decide) (by decide) d_Coast_init_5 ?_
  refine jc_dup hx d_Coast_init_8 rfl ?_
  refine jc_bipush (v := 6) hx d_Coast_init_9 (by decide) ?_
  refine jc_init hx (CC_Row (o := 28) (n := 6) (hcon_of hg 28 2 (by decide)) ir_28 rfl (by decide) (by decide)) mo_Row_init t_41 t_81 rfl (by decide) rfl rfl (Nat.le_of_ble_eq_true rfl) (by decide) (by decide) (by decide) (fun j _ => (Nat.add_assoc 27 1 j).symm) rfl (by decide) (by decide) d_Coast_init_11 ?_
  refine jc_putF (ty := .object "DonkeyLight$Row") hx ck_Coast 0 (by decide) t_82 rfl rfl (by decide +kernel) rfl rfl (Nat.le_of_ble_eq_true rfl) rfl d_Coast_init_14 (fun j _ h => Nat.lt_of_lt_of_le h (by decide)) rfl ?_
  refine jc_aload_n hx d_Coast_init_17 rfl 0 rfl ?_
  refine jc_new hx ck_Row zbl_7 t_80 t_39 t_3 (by decide) (by decide) rfl (by decide) (by decide) d_Coast_init_18 ?_
  refine jc_dup hx d_Coast_init_21 rfl ?_
  refine jc_bipush (v := 12) hx d_Coast_init_22 (by decide) ?_
  refine jc_init hx (CC_Row (o := 30) (n := 12) (hcon_of hg 30 2 (by decide)) ir_30 rfl (by decide) (by decide)) mo_Row_init t_41 t_81 rfl (by decide) rfl rfl (Nat.le_of_ble_eq_true rfl) (by decide) (by decide) (by decide) (fun j _ => (Nat.add_assoc 27 3 j).symm) rfl (by decide) (by decide) d_Coast_init_24 ?_
  refine jc_putF (ty := .object "DonkeyLight$Row") hx ck_Coast 1 (by decide) t_89 rfl rfl (by decide +kernel) rfl rfl (Nat.le_of_ble_eq_true rfl) rfl d_Coast_init_27 (fun j _ h => Nat.lt_of_lt_of_le h (by decide)) rfl ?_
  refine jc_aload_n hx d_Coast_init_30 rfl 0 rfl ?_
  refine jc_new hx ck_Row zbl_7 t_80 t_39 t_3 (by decide) (by decide) rfl (by decide) (by decide) d_Coast_init_31 ?_
  refine jc_dup hx d_Coast_init_34 rfl ?_
  refine jc_bipush (v := 6) hx d_Coast_init_35 (by decide) ?_
  refine jc_init hx (CC_Row (o := 32) (n := 6) (hcon_of hg 32 2 (by decide)) ir_32 rfl (by decide) (by decide)) mo_Row_init t_41 t_81 rfl (by decide) rfl rfl (Nat.le_of_ble_eq_true rfl) (by decide) (by decide) (by decide) (fun j _ => (Nat.add_assoc 27 5 j).symm) rfl (by decide) (by decide) d_Coast_init_37 ?_
  refine jc_putF (ty := .object "DonkeyLight$Row") hx ck_Coast 2 (by decide) t_91 rfl rfl (by decide +kernel) rfl rfl (Nat.le_of_ble_eq_true rfl) rfl d_Coast_init_40 (fun j _ h => Nat.lt_of_lt_of_le h (by decide)) rfl ?_
  refine jc_aload_n hx d_Coast_init_43 rfl 0 rfl ?_
  refine jc_new hx ck_Row zbl_7 t_80 t_39 t_3 (by decide) (by decide) rfl (by decide) (by decide) d_Coast_init_44 ?_
  refine jc_dup hx d_Coast_init_47 rfl ?_
  refine jc_bipush (v := 6) hx d_Coast_init_48 (by decide) ?_
  refine jc_init hx (CC_Row (o := 34) (n := 6) (hcon_of hg 34 2 (by decide)) ir_34 rfl (by decide) (by decide)) mo_Row_init t_41 t_81 rfl (by decide) rfl rfl (Nat.le_of_ble_eq_true rfl) (by decide) (by decide) (by decide) (fun j _ => (Nat.add_assoc 27 7 j).symm) rfl (by decide) (by decide) d_Coast_init_50 ?_
  refine jc_putF (ty := .object "DonkeyLight$Row") hx ck_Coast 3 (by decide) t_94 rfl rfl (by decide +kernel) rfl rfl (Nat.le_of_ble_eq_true rfl) rfl d_Coast_init_53 (fun j _ h => Nat.lt_of_lt_of_le h (by decide)) rfl ?_
  refine jc_aload_n hx d_Coast_init_56 rfl 0 rfl ?_
  refine jc_new hx ck_Row zbl_7 t_80 t_39 t_3 (by decide) (by decide) rfl (by decide) (by decide) d_Coast_init_57 ?_
  refine jc_dup hx d_Coast_init_60 rfl ?_
  refine jc_iconst (v := 3) hx d_Coast_init_61 (by decide) ?_
  refine jc_init hx (CC_Row (o := 36) (n := 3) (hcon_of hg 36 2 (by decide)) ir_36 rfl (by decide) (by decide)) mo_Row_init t_41 t_81 rfl (by decide) rfl rfl (Nat.le_of_ble_eq_true rfl) (by decide) (by decide) (by decide) (fun j _ => (Nat.add_assoc 27 9 j).symm) rfl (by decide) (by decide) d_Coast_init_62 ?_
  refine jc_putF (ty := .object "DonkeyLight$Row") hx ck_Coast 4 (by decide) t_97 rfl rfl (by decide +kernel) rfl rfl (Nat.le_of_ble_eq_true rfl) rfl d_Coast_init_65 (fun j _ h => Nat.lt_of_lt_of_le h (by decide)) rfl ?_
  refine jc_aload_n hx d_Coast_init_68 rfl 0 rfl ?_
  refine jc_new hx ck_Row zbl_7 t_80 t_39 t_3 (by decide) (by decide) rfl (by decide) (by decide) d_Coast_init_69 ?_
  refine jc_dup hx d_Coast_init_72 rfl ?_
  refine jc_iconst (v := 3) hx d_Coast_init_73 (by decide) ?_
  refine jc_init hx (CC_Row (o := 38) (n := 3) (hcon_of hg 38 2 (by decide)) ir_38 rfl (by decide) (by decide)) mo_Row_init t_41 t_81 rfl (by decide) rfl rfl (Nat.le_of_ble_eq_true rfl) (by decide) (by decide) (by decide) (fun j _ => (Nat.add_assoc 27 11 j).symm) rfl (by decide) (by decide) d_Coast_init_74 ?_
  refine jc_putF (ty := .object "DonkeyLight$Row") hx ck_Coast 5 (by decide) t_99 rfl rfl (by decide +kernel) rfl rfl (Nat.le_of_ble_eq_true rfl) rfl d_Coast_init_77 (fun j _ h => Nat.lt_of_lt_of_le h (by decide)) rfl ?_
  refine jc_aload_n hx d_Coast_init_80 rfl 0 rfl ?_
  refine jc_new hx ck_Row zbl_7 t_80 t_39 t_3 (by decide) (by decide) rfl (by decide) (by decide) d_Coast_init_81 ?_
  refine jc_dup hx d_Coast_init_84 rfl ?_
  refine jc_bipush (v := 6) hx d_Coast_init_85 (by decide) ?_
  refine jc_init hx (CC_Row (o := 40) (n := 6) (hcon_of hg 40 2 (by decide)) ir_40 rfl (by decide) (by decide)) mo_Row_init t_41 t_81 rfl (by decide) rfl rfl (Nat.le_of_ble_eq_true rfl) (by decide) (by decide) (by decide) (fun j _ => (Nat.add_assoc 27 13 j).symm) rfl (by decide) (by decide) d_Coast_init_87 ?_
  refine jc_putF (ty := .object "DonkeyLight$Row") hx ck_Coast 6 (by decide) t_103 rfl rfl (by decide +kernel) rfl rfl (Nat.le_of_ble_eq_true rfl) rfl d_Coast_init_90 (fun j _ h => Nat.lt_of_lt_of_le h (by decide)) rfl ?_
  refine jc_aload_n hx d_Coast_init_93 rfl 0 rfl ?_
  refine jc_new hx ck_Row zbl_7 t_80 t_39 t_3 (by decide) (by decide) rfl (by decide) (by decide) d_Coast_init_94 ?_
  refine jc_dup hx d_Coast_init_97 rfl ?_
  refine jc_bipush (v := 6) hx d_Coast_init_98 (by decide) ?_
  refine jc_init hx (CC_Row (o := 42) (n := 6) (hcon_of hg 42 2 (by decide)) ir_42 rfl (by decide) (by decide)) mo_Row_init t_41 t_81 rfl (by decide) rfl rfl (Nat.le_of_ble_eq_true rfl) (by decide) (by decide) (by decide) (fun j _ => (Nat.add_assoc 27 15 j).symm) rfl (by decide) (by decide) d_Coast_init_100 ?_
  refine jc_putF (ty := .object "DonkeyLight$Row") hx ck_Coast 7 (by decide) t_106 rfl rfl (by decide +kernel) rfl rfl (Nat.le_of_ble_eq_true rfl) rfl d_Coast_init_103 (fun j _ h => Nat.lt_of_lt_of_le h (by decide)) rfl ?_
  refine jc_aload_n hx d_Coast_init_106 rfl 0 rfl ?_
  refine jc_new hx ck_Row zbl_7 t_80 t_39 t_3 (by decide) (by decide) rfl (by decide) (by decide) d_Coast_init_107 ?_
  refine jc_dup hx d_Coast_init_110 rfl ?_
  refine jc_bipush (v := 6) hx d_Coast_init_111 (by decide) ?_
  refine jc_init hx (CC_Row (o := 44) (n := 6) (hcon_of hg 44 2 (by decide)) ir_44 rfl (by decide) (by decide)) mo_Row_init t_41 t_81 rfl (by decide) rfl rfl (Nat.le_of_ble_eq_true rfl) (by decide) (by decide) (by decide) (fun j _ => (Nat.add_assoc 27 17 j).symm) rfl (by decide) (by decide) d_Coast_init_113 ?_
  refine jc_putF (ty := .object "DonkeyLight$Row") hx ck_Coast 8 (by decide) t_108 rfl rfl (by decide +kernel) rfl rfl (Nat.le_of_ble_eq_true rfl) rfl d_Coast_init_116 (fun j _ h => Nat.lt_of_lt_of_le h (by decide)) rfl ?_
  refine jc_aload_n hx d_Coast_init_119 rfl 0 rfl ?_
  refine jc_new hx ck_Row zbl_7 t_80 t_39 t_3 (by decide) (by decide) rfl (by decide) (by decide) d_Coast_init_120 ?_
  refine jc_dup hx d_Coast_init_123 rfl ?_
  refine jc_bipush (v := 6) hx d_Coast_init_124 (by decide) ?_
  refine jc_init hx (CC_Row (o := 46) (n := 6) (hcon_of hg 46 2 (by decide)) ir_46 rfl (by decide) (by decide)) mo_Row_init t_41 t_81 rfl (by decide) rfl rfl (Nat.le_of_ble_eq_true rfl) (by decide) (by decide) (by decide) (fun j _ => (Nat.add_assoc 27 19 j).symm) rfl (by decide) (by decide) d_Coast_init_126 ?_
  refine jc_putF (ty := .object "DonkeyLight$Row") hx ck_Coast 9 (by decide) t_110 rfl rfl (by decide +kernel) rfl rfl (Nat.le_of_ble_eq_true rfl) rfl d_Coast_init_129 (fun j _ h => Nat.lt_of_lt_of_le h (by decide)) rfl ?_
  refine jc_aload_n hx d_Coast_init_132 rfl 0 rfl ?_
  refine jc_new hx ck_Row zbl_7 t_80 t_39 t_3 (by decide) (by decide) rfl (by decide) (by decide) d_Coast_init_133 ?_
  refine jc_dup hx d_Coast_init_136 rfl ?_
  refine jc_bipush (v := 6) hx d_Coast_init_137 (by decide) ?_
  refine jc_init hx (CC_Row (o := 48) (n := 6) (hcon_of hg 48 2 (by decide)) ir_48 rfl (by decide) (by decide)) mo_Row_init t_41 t_81 rfl (by decide) rfl rfl (Nat.le_of_ble_eq_true rfl) (by decide) (by decide) (by decide) (fun j _ => (Nat.add_assoc 27 21 j).symm) rfl (by decide) (by decide) d_Coast_init_139 ?_
  refine jc_putF (ty := .object "DonkeyLight$Row") hx ck_Coast 10 (by decide) t_112 rfl rfl (by decide +kernel) rfl rfl (Nat.le_of_ble_eq_true rfl) rfl d_Coast_init_142 (fun j _ h => Nat.lt_of_lt_of_le h (by decide)) rfl ?_
  refine jc_aload_n hx d_Coast_init_145 rfl 0 rfl ?_
  refine jc_iconst (v := 2) hx d_Coast_init_146 (by decide) ?_
  refine jc_putI hx ck_Coast 11 (by decide) t_113 rfl (Nat.le_of_ble_eq_true rfl) rfl d_Coast_init_147 (fun j _ h => Nat.lt_of_lt_of_le h (by decide)) rfl ?_
  exact jc_vret hx hq d_Coast_init_150 (by exact (sh_27 G (ι1 27)).symm) (fun _ _ => rfl) rfl rfl
theorem CC_Law_50 {l : Launch} {G : Gz} (hg : ∀ k, k < 112 → G.1 k = G.1 0 + k) : CC l G y_Law_init prog_5_method_1_code 1 3 4 463 [] 50 9 (lrs ι1 50) := by
  refine CC.of ι1 (hcon_of hg 50 9 (by decide)) (by decide) rfl (Nat.le_of_ble_eq_true rfl) (fun X hx hq => ?_)
  refine jc_aload_n hx d_Law_init_0 rfl 0 rfl ?_
  refine jc_obj hx t_144 t_30 t_oc (by decide) rfl d_Law_init_1 ?_
  refine jc_aload_n hx d_Law_init_4 rfl 0 rfl ?_
  refine jc_new hx ck_Row zbl_7 t_145 t_39 t_3 (by decide) (by decide) rfl (by decide) (by decide) d_Law_init_5 ?_
  refine jc_dup hx d_Law_init_8 rfl ?_
  refine jc_sipush (v := 150) hx d_Law_init_9 (by decide) ?_
  refine jc_init hx (CC_Row (o := 51) (n := 150) (hcon_of hg 51 2 (by decide)) ir_51 rfl (by decide) (by decide)) mo_Row_init t_41 t_146 rfl (by decide) rfl rfl (Nat.le_of_ble_eq_true rfl) (by decide) (by decide) (by decide) (fun j _ => (Nat.add_assoc 50 1 j).symm) rfl (by decide) (by decide) d_Law_init_12 ?_
  refine jc_putF (ty := .object "DonkeyLight$Row") hx ck_Law 0 (by decide) t_159 rfl rfl (by decide +kernel) rfl rfl (Nat.le_of_ble_eq_true rfl) rfl d_Law_init_15 (fun j _ h => Nat.lt_of_lt_of_le h (by decide)) rfl ?_
  refine jc_aload_n hx d_Law_init_18 rfl 0 rfl ?_
  refine jc_new hx ck_Row zbl_7 t_145 t_39 t_3 (by decide) (by decide) rfl (by decide) (by decide) d_Law_init_19 ?_
  refine jc_dup hx d_Law_init_22 rfl ?_
  refine jc_sipush (v := 150) hx d_Law_init_23 (by decide) ?_
  refine jc_init hx (CC_Row (o := 53) (n := 150) (hcon_of hg 53 2 (by decide)) ir_53 rfl (by decide) (by decide)) mo_Row_init t_41 t_146 rfl (by decide) rfl rfl (Nat.le_of_ble_eq_true rfl) (by decide) (by decide) (by decide) (fun j _ => (Nat.add_assoc 50 3 j).symm) rfl (by decide) (by decide) d_Law_init_26 ?_
  refine jc_putF (ty := .object "DonkeyLight$Row") hx ck_Law 1 (by decide) t_160 rfl rfl (by decide +kernel) rfl rfl (Nat.le_of_ble_eq_true rfl) rfl d_Law_init_29 (fun j _ h => Nat.lt_of_lt_of_le h (by decide)) rfl ?_
  refine jc_aload_n hx d_Law_init_32 rfl 0 rfl ?_
  refine jc_new hx ck_Row zbl_7 t_145 t_39 t_3 (by decide) (by decide) rfl (by decide) (by decide) d_Law_init_33 ?_
  refine jc_dup hx d_Law_init_36 rfl ?_
  refine jc_bipush (v := 9) hx d_Law_init_37 (by decide) ?_
  refine jc_init hx (CC_Row (o := 55) (n := 9) (hcon_of hg 55 2 (by decide)) ir_55 rfl (by decide) (by decide)) mo_Row_init t_41 t_146 rfl (by decide) rfl rfl (Nat.le_of_ble_eq_true rfl) (by decide) (by decide) (by decide) (fun j _ => (Nat.add_assoc 50 5 j).symm) rfl (by decide) (by decide) d_Law_init_39 ?_
  refine jc_putF (ty := .object "DonkeyLight$Row") hx ck_Law 2 (by decide) t_161 rfl rfl (by decide +kernel) rfl rfl (Nat.le_of_ble_eq_true rfl) rfl d_Law_init_42 (fun j _ h => Nat.lt_of_lt_of_le h (by decide)) rfl ?_
  refine jc_aload_n hx d_Law_init_45 rfl 0 rfl ?_
  refine jc_new hx ck_Row zbl_7 t_145 t_39 t_3 (by decide) (by decide) rfl (by decide) (by decide) d_Law_init_46 ?_
  refine jc_dup hx d_Law_init_49 rfl ?_
  refine jc_sipush (v := 150) hx d_Law_init_50 (by decide) ?_
  refine jc_init hx (CC_Row (o := 57) (n := 150) (hcon_of hg 57 2 (by decide)) ir_57 rfl (by decide) (by decide)) mo_Row_init t_41 t_146 rfl (by decide) rfl rfl (Nat.le_of_ble_eq_true rfl) (by decide) (by decide) (by decide) (fun j _ => (Nat.add_assoc 50 7 j).symm) rfl (by decide) (by decide) d_Law_init_53 ?_
  refine jc_putF (ty := .object "DonkeyLight$Row") hx ck_Law 3 (by decide) t_162 rfl rfl (by decide +kernel) rfl rfl (Nat.le_of_ble_eq_true rfl) rfl d_Law_init_56 (fun j _ h => Nat.lt_of_lt_of_le h (by decide)) rfl ?_
  refine jc_aload_n hx d_Law_init_59 rfl 0 rfl ?_
  refine jc_reset hx (p_Law_reset (zIp_of hg 50 9 (by decide)) isLaw_50 ⟨Nat.le_refl _, by decide⟩ ι1) mo_Law_reset mv_Law_reset t_147 (by decide) (sh_50 _ _) rfl (by exact (sh_50 G (ι1 50)).symm) rfl (by decide) (by decide) d_Law_init_60 ⟨by decide, by decide⟩ ?_
  exact jc_vret hx hq d_Law_init_63 rfl (fun _ _ => rfl) rfl rfl
theorem CC_Law_59 {l : Launch} {G : Gz} (hg : ∀ k, k < 112 → G.1 k = G.1 0 + k) : CC l G y_Law_init prog_5_method_1_code 1 3 4 463 [] 59 9 (lrs (lrs ι1 50) 59) := by
  refine CC.of (lrs ι1 50) (hcon_of hg 59 9 (by decide)) (by decide) rfl (Nat.le_of_ble_eq_true rfl) (fun X hx hq => ?_)
  refine jc_aload_n hx d_Law_init_0 rfl 0 rfl ?_
  refine jc_obj hx t_144 t_30 t_oc (by decide) rfl d_Law_init_1 ?_
  refine jc_aload_n hx d_Law_init_4 rfl 0 rfl ?_
  refine jc_new hx ck_Row zbl_7 t_145 t_39 t_3 (by decide) (by decide) rfl (by decide) (by decide) d_Law_init_5 ?_
  refine jc_dup hx d_Law_init_8 rfl ?_
  refine jc_sipush (v := 150) hx d_Law_init_9 (by decide) ?_
  refine jc_init hx (CC_Row (o := 60) (n := 150) (hcon_of hg 60 2 (by decide)) ir_60 ((lrs_q (by decide) (by decide) (by decide)).trans rfl) (by decide) (by decide)) mo_Row_init t_41 t_146 rfl (by decide) rfl rfl (Nat.le_of_ble_eq_true rfl) (by decide) (by decide) (by decide) (fun j _ => (Nat.add_assoc 59 1 j).symm) rfl (by decide) (by decide) d_Law_init_12 ?_
  refine jc_putF (ty := .object "DonkeyLight$Row") hx ck_Law 0 (by decide) t_159 rfl rfl (by decide +kernel) rfl rfl (Nat.le_of_ble_eq_true rfl) rfl d_Law_init_15 (fun j _ h => Nat.lt_of_lt_of_le h (by decide)) rfl ?_
  refine jc_aload_n hx d_Law_init_18 rfl 0 rfl ?_
  refine jc_new hx ck_Row zbl_7 t_145 t_39 t_3 (by decide) (by decide) rfl (by decide) (by decide) d_Law_init_19 ?_
  refine jc_dup hx d_Law_init_22 rfl ?_
  refine jc_sipush (v := 150) hx d_Law_init_23 (by decide) ?_
  refine jc_init hx (CC_Row (o := 62) (n := 150) (hcon_of hg 62 2 (by decide)) ir_62 ((lrs_q (by decide) (by decide) (by decide)).trans rfl) (by decide) (by decide)) mo_Row_init t_41 t_146 rfl (by decide) rfl rfl (Nat.le_of_ble_eq_true rfl) (by decide) (by decide) (by decide) (fun j _ => (Nat.add_assoc 59 3 j).symm) rfl (by decide) (by decide) d_Law_init_26 ?_
  refine jc_putF (ty := .object "DonkeyLight$Row") hx ck_Law 1 (by decide) t_160 rfl rfl (by decide +kernel) rfl rfl (Nat.le_of_ble_eq_true rfl) rfl d_Law_init_29 (fun j _ h => Nat.lt_of_lt_of_le h (by decide)) rfl ?_
  refine jc_aload_n hx d_Law_init_32 rfl 0 rfl ?_
  refine jc_new hx ck_Row zbl_7 t_145 t_39 t_3 (by decide) (by decide) rfl (by decide) (by decide) d_Law_init_33 ?_
  refine jc_dup hx d_Law_init_36 rfl ?_
  refine jc_bipush (v := 9) hx d_Law_init_37 (by decide) ?_
  refine jc_init hx (CC_Row (o := 64) (n := 9) (hcon_of hg 64 2 (by decide)) ir_64 ((lrs_q (by decide) (by decide) (by decide)).trans rfl) (by decide) (by decide)) mo_Row_init t_41 t_146 rfl (by decide) rfl rfl (Nat.le_of_ble_eq_true rfl) (by decide) (by decide) (by decide) (fun j _ => (Nat.add_assoc 59 5 j).symm) rfl (by decide) (by decide) d_Law_init_39 ?_
  refine jc_putF (ty := .object "DonkeyLight$Row") hx ck_Law 2 (by decide) t_161 rfl rfl (by decide +kernel) rfl rfl (Nat.le_of_ble_eq_true rfl) rfl d_Law_init_42 (fun j _ h => Nat.lt_of_lt_of_le h (by decide)) rfl ?_
  refine jc_aload_n hx d_Law_init_45 rfl 0 rfl ?_
  refine jc_new hx ck_Row zbl_7 t_145 t_39 t_3 (by decide) (by decide) rfl (by decide) (by decide) d_Law_init_46 ?_
  refine jc_dup hx d_Law_init_49 rfl ?_
  refine jc_sipush (v := 150) hx d_Law_init_50 (by decide) ?_
  refine jc_init hx (CC_Row (o := 66) (n := 150) (hcon_of hg 66 2 (by decide)) ir_66 ((lrs_q (by decide) (by decide) (by decide)).trans rfl) (by decide) (by decide)) mo_Row_init t_41 t_146 rfl (by decide) rfl rfl (Nat.le_of_ble_eq_true rfl) (by decide) (by decide) (by decide) (fun j _ => (Nat.add_assoc 59 7 j).symm) rfl (by decide) (by decide) d_Law_init_53 ?_
  refine jc_putF (ty := .object "DonkeyLight$Row") hx ck_Law 3 (by decide) t_162 rfl rfl (by decide +kernel) rfl rfl (Nat.le_of_ble_eq_true rfl) rfl d_Law_init_56 (fun j _ h => Nat.lt_of_lt_of_le h (by decide)) rfl ?_
  refine jc_aload_n hx d_Law_init_59 rfl 0 rfl ?_
  refine jc_reset hx (p_Law_reset (zIp_of hg 59 9 (by decide)) isLaw_59 ⟨Nat.le_refl _, by decide⟩ (lrs ι1 50)) mo_Law_reset mv_Law_reset t_147 (by decide) (sh_59 _ _) rfl (by exact (sh_59 G ((lrs ι1 50) 59)).symm) rfl (by decide) (by decide) d_Law_init_60 ⟨by decide, by decide⟩ ?_
  exact jc_vret hx hq d_Law_init_63 rfl (fun _ _ => rfl) rfl rfl
theorem CC_FlashLog_68 {l : Launch} {G : Gz} (hg : ∀ k, k < 112 → G.1 k = G.1 0 + k) : CC l G y_FlashLog_init prog_3_method_1_code 1 1 3 61 [] 68 3 ι1 := by
  refine CC.of ι1 (hcon_of hg 68 3 (by decide)) (by decide) rfl (Nat.le_of_ble_eq_true rfl) (fun X hx hq => ?_)
  refine jc_aload_n hx d_FlashLog_init_0 rfl 0 rfl ?_
  refine jc_obj hx t_180 t_30 t_oc (by decide) rfl d_FlashLog_init_1 ?_
  refine jc_aload_n hx d_FlashLog_init_4 rfl 0 rfl ?_
  refine jc_new hx ck_Row zbl_7 t_181 t_39 t_3 (by decide) (by decide) rfl (by decide) (by decide) d_FlashLog_init_5 ?_
  refine jc_dup hx d_FlashLog_init_8 rfl ?_
  refine jc_bipush (v := 60) hx d_FlashLog_init_9 (by decide) ?_
  refine jc_init hx (CC_Row (o := 69) (n := 60) (hcon_of hg 69 2 (by decide)) ir_69 rfl (by decide) (by decide)) mo_Row_init t_41 t_182 rfl (by decide) rfl rfl (Nat.le_of_ble_eq_true rfl) (by decide) (by decide) (by decide) (fun j _ => (Nat.add_assoc 68 1 j).symm) rfl (by decide) (by decide) d_FlashLog_init_11 ?_
  refine jc_putF (ty := .object "DonkeyLight$Row") hx ck_FlashLog 0 (by decide) t_183 rfl rfl (by decide +kernel) rfl rfl (Nat.le_of_ble_eq_true rfl) rfl d_FlashLog_init_14 (fun j _ h => Nat.lt_of_lt_of_le h (by decide)) rfl ?_
  exact jc_vret hx hq d_FlashLog_init_17 (by exact (sh_68 G (ι1 68)).symm) (fun _ _ => rfl) rfl rfl
theorem CC_FlashLog_71 {l : Launch} {G : Gz} (hg : ∀ k, k < 112 → G.1 k = G.1 0 + k) : CC l G y_FlashLog_init prog_3_method_1_code 1 1 3 61 [] 71 3 ι1 := by
  refine CC.of ι1 (hcon_of hg 71 3 (by decide)) (by decide) rfl (Nat.le_of_ble_eq_true rfl) (fun X hx hq => ?_)
  refine jc_aload_n hx d_FlashLog_init_0 rfl 0 rfl ?_
  refine jc_obj hx t_180 t_30 t_oc (by decide) rfl d_FlashLog_init_1 ?_
  refine jc_aload_n hx d_FlashLog_init_4 rfl 0 rfl ?_
  refine jc_new hx ck_Row zbl_7 t_181 t_39 t_3 (by decide) (by decide) rfl (by decide) (by decide) d_FlashLog_init_5 ?_
  refine jc_dup hx d_FlashLog_init_8 rfl ?_
  refine jc_bipush (v := 60) hx d_FlashLog_init_9 (by decide) ?_
  refine jc_init hx (CC_Row (o := 72) (n := 60) (hcon_of hg 72 2 (by decide)) ir_72 rfl (by decide) (by decide)) mo_Row_init t_41 t_182 rfl (by decide) rfl rfl (Nat.le_of_ble_eq_true rfl) (by decide) (by decide) (by decide) (fun j _ => (Nat.add_assoc 71 1 j).symm) rfl (by decide) (by decide) d_FlashLog_init_11 ?_
  refine jc_putF (ty := .object "DonkeyLight$Row") hx ck_FlashLog 0 (by decide) t_183 rfl rfl (by decide +kernel) rfl rfl (Nat.le_of_ble_eq_true rfl) rfl d_FlashLog_init_14 (fun j _ h => Nat.lt_of_lt_of_le h (by decide)) rfl ?_
  exact jc_vret hx hq d_FlashLog_init_17 (by exact (sh_71 G (ι1 71)).symm) (fun _ _ => rfl) rfl rfl
theorem CC_Work_74 {l : Launch} {G : Gz} (hg : ∀ k, k < 112 → G.1 k = G.1 0 + k) : CC l G y_Work_init prog_12_method_1_code 1 10 3 453 [] 74 7 ι1 := by
  refine CC.of ι1 (hcon_of hg 74 7 (by decide)) (by decide) rfl (Nat.le_of_ble_eq_true rfl) (fun X hx hq => ?_)
  refine jc_aload_n hx d_Work_init_0 rfl 0 rfl ?_
  refine jc_obj hx t_195 t_30 t_oc (by decide) rfl d_Work_init_1 ?_
  refine jc_aload_n hx d_Work_init_4 rfl 0 rfl ?_
  refine jc_new hx ck_Row zbl_7 t_196 t_39 t_3 (by decide) (by decide) rfl (by decide) (by decide) d_Work_init_5 ?_
  refine jc_dup hx d_Work_init_8 rfl ?_
  refine jc_sipush (v := 150) hx d_Work_init_9 (by decide) ?_
  refine jc_init hx (CC_Row (o := 75) (n := 150) (hcon_of hg 75 2 (by decide)) ir_75 rfl (by decide) (by decide)) mo_Row_init t_41 t_197 rfl (by decide) rfl rfl (Nat.le_of_ble_eq_true rfl) (by decide) (by decide) (by decide) (fun j _ => (Nat.add_assoc 74 1 j).symm) rfl (by decide) (by decide) d_Work_init_12 ?_
  refine jc_putF (ty := .object "DonkeyLight$Row") hx ck_Work 0 (by decide) t_198 rfl rfl (by decide +kernel) rfl rfl (Nat.le_of_ble_eq_true rfl) rfl d_Work_init_15 (fun j _ h => Nat.lt_of_lt_of_le h (by decide)) rfl ?_
  refine jc_aload_n hx d_Work_init_18 rfl 0 rfl ?_
  refine jc_new hx ck_Row zbl_7 t_196 t_39 t_3 (by decide) (by decide) rfl (by decide) (by decide) d_Work_init_19 ?_
  refine jc_dup hx d_Work_init_22 rfl ?_
  refine jc_sipush (v := 150) hx d_Work_init_23 (by decide) ?_
  refine jc_init hx (CC_Row (o := 77) (n := 150) (hcon_of hg 77 2 (by decide)) ir_77 rfl (by decide) (by decide)) mo_Row_init t_41 t_197 rfl (by decide) rfl rfl (Nat.le_of_ble_eq_true rfl) (by decide) (by decide) (by decide) (fun j _ => (Nat.add_assoc 74 3 j).symm) rfl (by decide) (by decide) d_Work_init_26 ?_
  refine jc_putF (ty := .object "DonkeyLight$Row") hx ck_Work 1 (by decide) t_199 rfl rfl (by decide +kernel) rfl rfl (Nat.le_of_ble_eq_true rfl) rfl d_Work_init_29 (fun j _ h => Nat.lt_of_lt_of_le h (by decide)) rfl ?_
  refine jc_aload_n hx d_Work_init_32 rfl 0 rfl ?_
  refine jc_new hx ck_Row zbl_7 t_196 t_39 t_3 (by decide) (by decide) rfl (by decide) (by decide) d_Work_init_33 ?_
  refine jc_dup hx d_Work_init_36 rfl ?_
  refine jc_sipush (v := 150) hx d_Work_init_37 (by decide) ?_
  refine jc_init hx (CC_Row (o := 79) (n := 150) (hcon_of hg 79 2 (by decide)) ir_79 rfl (by decide) (by decide)) mo_Row_init t_41 t_197 rfl (by decide) rfl rfl (Nat.le_of_ble_eq_true rfl) (by decide) (by decide) (by decide) (fun j _ => (Nat.add_assoc 74 5 j).symm) rfl (by decide) (by decide) d_Work_init_40 ?_
  refine jc_putF (ty := .object "DonkeyLight$Row") hx ck_Work 2 (by decide) t_200 rfl rfl (by decide +kernel) rfl rfl (Nat.le_of_ble_eq_true rfl) rfl d_Work_init_43 (fun j _ h => Nat.lt_of_lt_of_le h (by decide)) rfl ?_
  exact jc_vret hx hq d_Work_init_46 (by exact (sh_74 G (ι1 74)).symm) (fun _ _ => rfl) rfl rfl
theorem CC_Nights_81 {l : Launch} {G : Gz} (hg : ∀ k, k < 112 → G.1 k = G.1 0 + k) : CC l G y_Nights_init prog_6_method_1_code 1 4 3 30 [] 81 3 ι1 := by
  refine CC.of ι1 (hcon_of hg 81 3 (by decide)) (by decide) rfl (Nat.le_of_ble_eq_true rfl) (fun X hx hq => ?_)
  refine jc_aload_n hx d_Nights_init_0 rfl 0 rfl ?_
  refine jc_obj hx t_225 t_30 t_oc (by decide) rfl d_Nights_init_1 ?_
  refine jc_aload_n hx d_Nights_init_4 rfl 0 rfl ?_
  refine jc_new hx ck_Row zbl_7 t_226 t_39 t_3 (by decide) (by decide) rfl (by decide) (by decide) d_Nights_init_5 ?_
  refine jc_dup hx d_Nights_init_8 rfl ?_
  refine jc_bipush (v := 29) hx d_Nights_init_9 (by decide) ?_
  refine jc_init hx (CC_Row (o := 82) (n := 29) (hcon_of hg 82 2 (by decide)) ir_82 rfl (by decide) (by decide)) mo_Row_init t_41 t_227 rfl (by decide) rfl rfl (Nat.le_of_ble_eq_true rfl) (by decide) (by decide) (by decide) (fun j _ => (Nat.add_assoc 81 1 j).symm) rfl (by decide) (by decide) d_Nights_init_11 ?_
  refine jc_putF (ty := .object "DonkeyLight$Row") hx ck_Nights 0 (by decide) t_228 rfl rfl (by decide +kernel) rfl rfl (Nat.le_of_ble_eq_true rfl) rfl d_Nights_init_14 (fun j _ h => Nat.lt_of_lt_of_le h (by decide)) rfl ?_
  exact jc_vret hx hq d_Nights_init_17 (by exact (sh_81 G (ι1 81)).symm) (fun _ _ => rfl) rfl rfl
theorem CC_Passing_84 {l : Launch} {G : Gz} (hg : ∀ k, k < 112 → G.1 k = G.1 0 + k) : CC l G y_Passing_init prog_7_method_1_code 1 5 3 172 [] 84 9 ι1 := by
  refine CC.of ι1 (hcon_of hg 84 9 (by decide)) (by decide) rfl (Nat.le_of_ble_eq_true rfl) (fun X hx hq => ?_)
  refine jc_aload_n hx d_Passing_init_0 rfl 0 rfl ?_
  refine jc_obj hx t_239 t_30 t_oc (by decide) rfl d_Passing_init_1 ?_
  refine jc_aload_n hx d_Passing_init_4 rfl 0 rfl ?_
  refine jc_new hx ck_Row zbl_7 t_240 t_39 t_3 (by decide) (by decide) rfl (by decide) (by decide) d_Passing_init_5 ?_
  refine jc_dup hx d_Passing_init_8 rfl ?_
  refine jc_bipush (v := 12) hx d_Passing_init_9 (by decide) ?_
  refine jc_init hx (CC_Row (o := 85) (n := 12) (hcon_of hg 85 2 (by decide)) ir_85 rfl (by decide) (by decide)) mo_Row_init t_41 t_241 rfl (by decide) rfl rfl (Nat.le_of_ble_eq_true rfl) (by decide) (by decide) (by decide) (fun j _ => (Nat.add_assoc 84 1 j).symm) rfl (by decide) (by decide) d_Passing_init_11 ?_
  refine jc_putF (ty := .object "DonkeyLight$Row") hx ck_Passing 0 (by decide) t_242 rfl rfl (by decide +kernel) rfl rfl (Nat.le_of_ble_eq_true rfl) rfl d_Passing_init_14 (fun j _ h => Nat.lt_of_lt_of_le h (by decide)) rfl ?_
  refine jc_aload_n hx d_Passing_init_17 rfl 0 rfl ?_
  refine jc_new hx ck_Row zbl_7 t_240 t_39 t_3 (by decide) (by decide) rfl (by decide) (by decide) d_Passing_init_18 ?_
  refine jc_dup hx d_Passing_init_21 rfl ?_
  refine jc_bipush (v := 12) hx d_Passing_init_22 (by decide) ?_
  refine jc_init hx (CC_Row (o := 87) (n := 12) (hcon_of hg 87 2 (by decide)) ir_87 rfl (by decide) (by decide)) mo_Row_init t_41 t_241 rfl (by decide) rfl rfl (Nat.le_of_ble_eq_true rfl) (by decide) (by decide) (by decide) (fun j _ => (Nat.add_assoc 84 3 j).symm) rfl (by decide) (by decide) d_Passing_init_24 ?_
  refine jc_putF (ty := .object "DonkeyLight$Row") hx ck_Passing 1 (by decide) t_243 rfl rfl (by decide +kernel) rfl rfl (Nat.le_of_ble_eq_true rfl) rfl d_Passing_init_27 (fun j _ h => Nat.lt_of_lt_of_le h (by decide)) rfl ?_
  refine jc_aload_n hx d_Passing_init_30 rfl 0 rfl ?_
  refine jc_new hx ck_Row zbl_7 t_240 t_39 t_3 (by decide) (by decide) rfl (by decide) (by decide) d_Passing_init_31 ?_
  refine jc_dup hx d_Passing_init_34 rfl ?_
  refine jc_bipush (v := 72) hx d_Passing_init_35 (by decide) ?_
  refine jc_init hx (CC_Row (o := 89) (n := 72) (hcon_of hg 89 2 (by decide)) ir_89 rfl (by decide) (by decide)) mo_Row_init t_41 t_241 rfl (by decide) rfl rfl (Nat.le_of_ble_eq_true rfl) (by decide) (by decide) (by decide) (fun j _ => (Nat.add_assoc 84 5 j).symm) rfl (by decide) (by decide) d_Passing_init_37 ?_
  refine jc_putF (ty := .object "DonkeyLight$Row") hx ck_Passing 2 (by decide) t_244 rfl rfl (by decide +kernel) rfl rfl (Nat.le_of_ble_eq_true rfl) rfl d_Passing_init_40 (fun j _ h => Nat.lt_of_lt_of_le h (by decide)) rfl ?_
  refine jc_aload_n hx d_Passing_init_43 rfl 0 rfl ?_
  refine jc_new hx ck_Row zbl_7 t_240 t_39 t_3 (by decide) (by decide) rfl (by decide) (by decide) d_Passing_init_44 ?_
  refine jc_dup hx d_Passing_init_47 rfl ?_
  refine jc_bipush (v := 72) hx d_Passing_init_48 (by decide) ?_
  refine jc_init hx (CC_Row (o := 91) (n := 72) (hcon_of hg 91 2 (by decide)) ir_91 rfl (by decide) (by decide)) mo_Row_init t_41 t_241 rfl (by decide) rfl rfl (Nat.le_of_ble_eq_true rfl) (by decide) (by decide) (by decide) (fun j _ => (Nat.add_assoc 84 7 j).symm) rfl (by decide) (by decide) d_Passing_init_50 ?_
  refine jc_putF (ty := .object "DonkeyLight$Row") hx ck_Passing 3 (by decide) t_245 rfl rfl (by decide +kernel) rfl rfl (Nat.le_of_ble_eq_true rfl) rfl d_Passing_init_53 (fun j _ h => Nat.lt_of_lt_of_le h (by decide)) rfl ?_
  exact jc_vret hx hq d_Passing_init_56 (by exact (sh_84 G (ι1 84)).symm) (fun _ _ => rfl) rfl rfl
theorem CC_Plans_93 {l : Launch} {G : Gz} (hg : ∀ k, k < 112 → G.1 k = G.1 0 + k) : CC l G y_Plans_init prog_8_method_1_code 1 6 3 50 [] 93 5 ι1 := by
  refine CC.of ι1 (hcon_of hg 93 5 (by decide)) (by decide) rfl (Nat.le_of_ble_eq_true rfl) (fun X hx hq => ?_)
  refine jc_aload_n hx d_Plans_init_0 rfl 0 rfl ?_
  refine jc_obj hx t_260 t_30 t_oc (by decide) rfl d_Plans_init_1 ?_
  refine jc_aload_n hx d_Plans_init_4 rfl 0 rfl ?_
  refine jc_new hx ck_Row zbl_7 t_261 t_39 t_3 (by decide) (by decide) rfl (by decide) (by decide) d_Plans_init_5 ?_
  refine jc_dup hx d_Plans_init_8 rfl ?_
  refine jc_bipush (v := 12) hx d_Plans_init_9 (by decide) ?_
  refine jc_init hx (CC_Row (o := 94) (n := 12) (hcon_of hg 94 2 (by decide)) ir_94 rfl (by decide) (by decide)) mo_Row_init t_41 t_262 rfl (by decide) rfl rfl (Nat.le_of_ble_eq_true rfl) (by decide) (by decide) (by decide) (fun j _ => (Nat.add_assoc 93 1 j).symm) rfl (by decide) (by decide) d_Plans_init_11 ?_
  refine jc_putF (ty := .object "DonkeyLight$Row") hx ck_Plans 0 (by decide) t_263 rfl rfl (by decide +kernel) rfl rfl (Nat.le_of_ble_eq_true rfl) rfl d_Plans_init_14 (fun j _ h => Nat.lt_of_lt_of_le h (by decide)) rfl ?_
  refine jc_aload_n hx d_Plans_init_17 rfl 0 rfl ?_
  refine jc_new hx ck_Row zbl_7 t_261 t_39 t_3 (by decide) (by decide) rfl (by decide) (by decide) d_Plans_init_18 ?_
  refine jc_dup hx d_Plans_init_21 rfl ?_
  refine jc_bipush (v := 36) hx d_Plans_init_22 (by decide) ?_
  refine jc_init hx (CC_Row (o := 96) (n := 36) (hcon_of hg 96 2 (by decide)) ir_96 rfl (by decide) (by decide)) mo_Row_init t_41 t_262 rfl (by decide) rfl rfl (Nat.le_of_ble_eq_true rfl) (by decide) (by decide) (by decide) (fun j _ => (Nat.add_assoc 93 3 j).symm) rfl (by decide) (by decide) d_Plans_init_24 ?_
  refine jc_putF (ty := .object "DonkeyLight$Row") hx ck_Plans 1 (by decide) t_264 rfl rfl (by decide +kernel) rfl rfl (Nat.le_of_ble_eq_true rfl) rfl d_Plans_init_27 (fun j _ h => Nat.lt_of_lt_of_le h (by decide)) rfl ?_
  exact jc_vret hx hq d_Plans_init_30 (by exact (sh_93 G (ι1 93)).symm) (fun _ _ => rfl) rfl rfl
theorem CC_Nights_99 {l : Launch} {G : Gz} (hg : ∀ k, k < 112 → G.1 k = G.1 0 + k) : CC l G y_Nights_init prog_6_method_1_code 1 4 3 30 [] 99 3 ι1 := by
  refine CC.of ι1 (hcon_of hg 99 3 (by decide)) (by decide) rfl (Nat.le_of_ble_eq_true rfl) (fun X hx hq => ?_)
  refine jc_aload_n hx d_Nights_init_0 rfl 0 rfl ?_
  refine jc_obj hx t_225 t_30 t_oc (by decide) rfl d_Nights_init_1 ?_
  refine jc_aload_n hx d_Nights_init_4 rfl 0 rfl ?_
  refine jc_new hx ck_Row zbl_7 t_226 t_39 t_3 (by decide) (by decide) rfl (by decide) (by decide) d_Nights_init_5 ?_
  refine jc_dup hx d_Nights_init_8 rfl ?_
  refine jc_bipush (v := 29) hx d_Nights_init_9 (by decide) ?_
  refine jc_init hx (CC_Row (o := 100) (n := 29) (hcon_of hg 100 2 (by decide)) ir_100 rfl (by decide) (by decide)) mo_Row_init t_41 t_227 rfl (by decide) rfl rfl (Nat.le_of_ble_eq_true rfl) (by decide) (by decide) (by decide) (fun j _ => (Nat.add_assoc 99 1 j).symm) rfl (by decide) (by decide) d_Nights_init_11 ?_
  refine jc_putF (ty := .object "DonkeyLight$Row") hx ck_Nights 0 (by decide) t_228 rfl rfl (by decide +kernel) rfl rfl (Nat.le_of_ble_eq_true rfl) rfl d_Nights_init_14 (fun j _ h => Nat.lt_of_lt_of_le h (by decide)) rfl ?_
  exact jc_vret hx hq d_Nights_init_17 (by exact (sh_99 G (ι1 99)).symm) (fun _ _ => rfl) rfl rfl
theorem CC_Winter_98 {l : Launch} {G : Gz} (hg : ∀ k, k < 112 → G.1 k = G.1 0 + k) : CC l G y_Winter_init prog_11_method_1_code 1 9 4 31 [] 98 4 ι1 := by
  refine CC.of ι1 (hcon_of hg 98 4 (by decide)) (by decide) rfl (Nat.le_of_ble_eq_true rfl) (fun X hx hq => ?_)
  refine jc_aload_n hx d_Winter_init_0 rfl 0 rfl ?_
  refine jc_obj hx t_287 t_30 t_oc (by decide) rfl d_Winter_init_1 ?_
  refine jc_aload_n hx d_Winter_init_4 rfl 0 rfl ?_
  refine jc_new hx ck_Nights zbl_4 t_288 t_221 t_9 (by decide) (by decide) rfl (by decide) (by decide) d_Winter_init_5 ?_
  refine jc_dup hx d_Winter_init_8 rfl ?_
  refine jc_initN hx (CC_Nights_99 hg) mo_Nights_init t_223 t_289 rfl (by decide) rfl rfl (Nat.le_of_ble_eq_true rfl) (by decide) (by decide) (by decide) (fun j _ => (Nat.add_assoc 98 1 j).symm) rfl (by decide) (by decide) d_Winter_init_9 ?_
  refine jc_putF (ty := .object "DonkeyLight$Nights") hx ck_Winter 0 (by decide) t_290 rfl rfl (by decide +kernel) rfl rfl (Nat.le_of_ble_eq_true rfl) rfl d_Winter_init_12 (fun j _ h => Nat.lt_of_lt_of_le h (by decide)) rfl ?_
  exact jc_vret hx hq d_Winter_init_15 (by exact (sh_98 G (ι1 98)).symm) (fun _ _ => rfl) rfl rfl
theorem CC_History_102 {l : Launch} {G : Gz} (hg : ∀ k, k < 112 → G.1 k = G.1 0 + k) : CC l G y_History_init prog_4_method_1_code 1 2 3 1949 [] 102 7 ι1 := by
  refine CC.of ι1 (hcon_of hg 102 7 (by decide)) (by decide) rfl (Nat.le_of_ble_eq_true rfl) (fun X hx hq => ?_)
  refine jc_aload_n hx d_History_init_0 rfl 0 rfl ?_
  refine jc_obj hx t_305 t_30 t_oc (by decide) rfl d_History_init_1 ?_
  refine jc_aload_n hx d_History_init_4 rfl 0 rfl ?_
  refine jc_new hx ck_Row zbl_7 t_306 t_39 t_3 (by decide) (by decide) rfl (by decide) (by decide) d_History_init_5 ?_
  refine jc_dup hx d_History_init_8 rfl ?_
  refine jc_sipush (v := 464) hx d_History_init_9 (by decide) ?_
  refine jc_init hx (CC_Row (o := 103) (n := 464) (hcon_of hg 103 2 (by decide)) ir_103 rfl (by decide) (by decide)) mo_Row_init t_41 t_307 rfl (by decide) rfl rfl (Nat.le_of_ble_eq_true rfl) (by decide) (by decide) (by decide) (fun j _ => (Nat.add_assoc 102 1 j).symm) rfl (by decide) (by decide) d_History_init_12 ?_
  refine jc_putF (ty := .object "DonkeyLight$Row") hx ck_History 0 (by decide) t_308 rfl rfl (by decide +kernel) rfl rfl (Nat.le_of_ble_eq_true rfl) rfl d_History_init_15 (fun j _ h => Nat.lt_of_lt_of_le h (by decide)) rfl ?_
  refine jc_aload_n hx d_History_init_18 rfl 0 rfl ?_
  refine jc_new hx ck_Row zbl_7 t_306 t_39 t_3 (by decide) (by decide) rfl (by decide) (by decide) d_History_init_19 ?_
  refine jc_dup hx d_History_init_22 rfl ?_
  refine jc_sipush (v := 1479) hx d_History_init_23 (by decide) ?_
  refine jc_init hx (CC_Row (o := 105) (n := 1479) (hcon_of hg 105 2 (by decide)) ir_105 rfl (by decide) (by decide)) mo_Row_init t_41 t_307 rfl (by decide) rfl rfl (Nat.le_of_ble_eq_true rfl) (by decide) (by decide) (by decide) (fun j _ => (Nat.add_assoc 102 3 j).symm) rfl (by decide) (by decide) d_History_init_26 ?_
  refine jc_putF (ty := .object "DonkeyLight$Row") hx ck_History 1 (by decide) t_309 rfl rfl (by decide +kernel) rfl rfl (Nat.le_of_ble_eq_true rfl) rfl d_History_init_29 (fun j _ h => Nat.lt_of_lt_of_le h (by decide)) rfl ?_
  refine jc_aload_n hx d_History_init_32 rfl 0 rfl ?_
  refine jc_new hx ck_Row zbl_7 t_306 t_39 t_3 (by decide) (by decide) rfl (by decide) (by decide) d_History_init_33 ?_
  refine jc_dup hx d_History_init_36 rfl ?_
  refine jc_iconst (v := 3) hx d_History_init_37 (by decide) ?_
  refine jc_init hx (CC_Row (o := 107) (n := 3) (hcon_of hg 107 2 (by decide)) ir_107 rfl (by decide) (by decide)) mo_Row_init t_41 t_307 rfl (by decide) rfl rfl (Nat.le_of_ble_eq_true rfl) (by decide) (by decide) (by decide) (fun j _ => (Nat.add_assoc 102 5 j).symm) rfl (by decide) (by decide) d_History_init_38 ?_
  refine jc_putF (ty := .object "DonkeyLight$Row") hx ck_History 2 (by decide) t_310 rfl rfl (by decide +kernel) rfl rfl (Nat.le_of_ble_eq_true rfl) rfl d_History_init_41 (fun j _ h => Nat.lt_of_lt_of_le h (by decide)) rfl ?_
  exact jc_vret hx hq d_History_init_44 (by exact (sh_102 G (ι1 102)).symm) (fun _ _ => rfl) rfl rfl
theorem ι_1 : ∀ j, j < 3 → (ι1) (1 + j) = ι (1 + j) := fun j hj => (ι_q (by omega)).symm
theorem ι_4 : ∀ j, j < 23 → (ι1) (4 + j) = ι (4 + j) := fun j hj => (ι_q (by omega)).symm
theorem ι_27 : ∀ j, j < 23 → (ι1) (27 + j) = ι (27 + j) := fun j hj => (ι_q (by omega)).symm
theorem ι_50 : ∀ j, j < 9 → (lrs ι1 50) (50 + j) = ι (50 + j) := fun j hj => by unfold ι; rw [lrs_q (s := lrs ι1 50) (o := 59) (by omega) (by omega) (by omega)]
theorem ι_59 : ∀ j, j < 9 → (lrs (lrs ι1 50) 59) (59 + j) = ι (59 + j) := fun j hj => rfl
theorem ι_68 : ∀ j, j < 3 → (ι1) (68 + j) = ι (68 + j) := fun j hj => (ι_q (by omega)).symm
theorem ι_71 : ∀ j, j < 3 → (ι1) (71 + j) = ι (71 + j) := fun j hj => (ι_q (by omega)).symm
theorem ι_74 : ∀ j, j < 7 → (ι1) (74 + j) = ι (74 + j) := fun j hj => (ι_q (by omega)).symm
theorem ι_81 : ∀ j, j < 3 → (ι1) (81 + j) = ι (81 + j) := fun j hj => (ι_q (by omega)).symm
theorem ι_84 : ∀ j, j < 9 → (ι1) (84 + j) = ι (84 + j) := fun j hj => (ι_q (by omega)).symm
theorem ι_93 : ∀ j, j < 5 → (ι1) (93 + j) = ι (93 + j) := fun j hj => (ι_q (by omega)).symm
theorem ι_98 : ∀ j, j < 4 → (ι1) (98 + j) = ι (98 + j) := fun j hj => (ι_q (by omega)).symm
theorem ι_102 : ∀ j, j < 7 → (ι1) (102 + j) = ι (102 + j) := fun j hj => (ι_q (by omega)).symm
theorem ι_r109 : ι (109 + 1) = fun _ => 0 := (ι_q (by decide)).trans rfl
theorem CC_DL_0 {l : Launch} {G : Gz} (hg : ∀ k, k < 112 → G.1 k = G.1 0 + k) : CC l G y_DL_init prog_1_method_1_code 1 11 5 4816 [] 0 111 ι := by
  refine CC.of ι (hcon_of hg 0 111 (by decide)) (by decide) rfl (Nat.le_of_ble_eq_true rfl) (fun X hx hq => ?_)
  refine jc_aload_n hx d_DL_init_0 rfl 0 rfl ?_
  refine jc_obj hx t_29 t_30 t_oc (by decide) rfl d_DL_init_1 ?_
  refine jc_aload_n hx d_DL_init_4 rfl 0 rfl ?_
  refine jc_new hx ck_Tape zbl_8 t_32 t_33 t_2 (by decide) (by decide) rfl (by decide) (by decide) d_DL_init_5 ?_
  refine jc_dup hx d_DL_init_8 rfl ?_
  refine jc_initN hx ((CC_Tape_1 (l := l) hg).to (ι_1)) mo_Tape_init t_35 t_34 rfl (by decide) rfl rfl (Nat.le_of_ble_eq_true rfl) (by decide) (by decide) (by decide) (fun j _ => (Nat.add_assoc 0 1 j).symm) rfl (by decide) (by decide) d_DL_init_9 ?_
  refine jc_putF (ty := .object "DonkeyLight$Tape") hx ck_DL 0 (by decide) t_326 rfl rfl (by decide +kernel) rfl rfl (Nat.le_of_ble_eq_true rfl) rfl d_DL_init_12 (fun j _ h => Nat.lt_of_lt_of_le h (by decide)) rfl ?_
  refine jc_aload_n hx d_DL_init_15 rfl 0 rfl ?_
  refine jc_new hx ck_Coast zbl_0 t_74 t_75 t_5 (by decide) (by decide) rfl (by decide) (by decide) d_DL_init_16 ?_
  refine jc_dup hx d_DL_init_19 rfl ?_
  refine jc_initN hx ((CC_Coast_4 (l := l) hg).to (ι_4)) mo_Coast_init t_77 t_76 rfl (by decide) rfl rfl (Nat.le_of_ble_eq_true rfl) (by decide) (by decide) (by decide) (fun j _ => (Nat.add_assoc 0 4 j).symm) rfl (by decide) (by decide) d_DL_init_20 ?_
  refine jc_putF (ty := .object "DonkeyLight$Coast") hx ck_DL 1 (by decide) t_327 rfl rfl (by decide +kernel) rfl rfl (Nat.le_of_ble_eq_true rfl) rfl d_DL_init_23 (fun j _ h => Nat.lt_of_lt_of_le h (by decide)) rfl ?_
  refine jc_aload_n hx d_DL_init_26 rfl 0 rfl ?_
  refine jc_new hx ck_Coast zbl_0 t_74 t_75 t_5 (by decide) (by decide) rfl (by decide) (by decide) d_DL_init_27 ?_
  refine jc_dup hx d_DL_init_30 rfl ?_
  refine jc_initN hx ((CC_Coast_27 (l := l) hg).to (ι_27)) mo_Coast_init t_77 t_76 rfl (by decide) rfl rfl (Nat.le_of_ble_eq_true rfl) (by decide) (by decide) (by decide) (fun j _ => (Nat.add_assoc 0 27 j).symm) rfl (by decide) (by decide) d_DL_init_31 ?_
  refine jc_putF (ty := .object "DonkeyLight$Coast") hx ck_DL 2 (by decide) t_328 rfl rfl (by decide +kernel) rfl rfl (Nat.le_of_ble_eq_true rfl) rfl d_DL_init_34 (fun j _ h => Nat.lt_of_lt_of_le h (by decide)) rfl ?_
  refine jc_aload_n hx d_DL_init_37 rfl 0 rfl ?_
  refine jc_new hx ck_Law zbl_3 t_139 t_140 t_6 (by decide) (by decide) rfl (by decide) (by decide) d_DL_init_38 ?_
  refine jc_dup hx d_DL_init_41 rfl ?_
  refine jc_init hx ((CC_Law_50 (l := l) hg).to (ι_50)) mo_Law_init t_142 t_141 rfl (by decide) rfl rfl (Nat.le_of_ble_eq_true rfl) (by decide) (by decide) (by decide) (fun j _ => (Nat.add_assoc 0 50 j).symm) rfl (by decide) (by decide) d_DL_init_42 ?_
  refine jc_putF (ty := .object "DonkeyLight$Law") hx ck_DL 3 (by decide) t_329 rfl rfl (by decide +kernel) rfl rfl (Nat.le_of_ble_eq_true rfl) rfl d_DL_init_45 (fun j _ h => Nat.lt_of_lt_of_le h (by decide)) rfl ?_
  refine jc_aload_n hx d_DL_init_48 rfl 0 rfl ?_
  refine jc_new hx ck_Law zbl_3 t_139 t_140 t_6 (by decide) (by decide) rfl (by decide) (by decide) d_DL_init_49 ?_
  refine jc_dup hx d_DL_init_52 rfl ?_
  refine jc_init hx ((CC_Law_59 (l := l) hg).to (ι_59)) mo_Law_init t_142 t_141 rfl (by decide) rfl rfl (Nat.le_of_ble_eq_true rfl) (by decide) (by decide) (by decide) (fun j _ => (Nat.add_assoc 0 59 j).symm) rfl (by decide) (by decide) d_DL_init_53 ?_
  refine jc_putF (ty := .object "DonkeyLight$Law") hx ck_DL 4 (by decide) t_330 rfl rfl (by decide +kernel) rfl rfl (Nat.le_of_ble_eq_true rfl) rfl d_DL_init_56 (fun j _ h => Nat.lt_of_lt_of_le h (by decide)) rfl ?_
  refine jc_aload_n hx d_DL_init_59 rfl 0 rfl ?_
  refine jc_new hx ck_FlashLog zbl_1 t_175 t_176 t_7 (by decide) (by decide) rfl (by decide) (by decide) d_DL_init_60 ?_
  refine jc_dup hx d_DL_init_63 rfl ?_
  refine jc_initN hx ((CC_FlashLog_68 (l := l) hg).to (ι_68)) mo_FlashLog_init t_178 t_177 rfl (by decide) rfl rfl (Nat.le_of_ble_eq_true rfl) (by decide) (by decide) (by decide) (fun j _ => (Nat.add_assoc 0 68 j).symm) rfl (by decide) (by decide) d_DL_init_64 ?_
  refine jc_putF (ty := .object "DonkeyLight$FlashLog") hx ck_DL 5 (by decide) t_331 rfl rfl (by decide +kernel) rfl rfl (Nat.le_of_ble_eq_true rfl) rfl d_DL_init_67 (fun j _ h => Nat.lt_of_lt_of_le h (by decide)) rfl ?_
  refine jc_aload_n hx d_DL_init_70 rfl 0 rfl ?_
  refine jc_new hx ck_FlashLog zbl_1 t_175 t_176 t_7 (by decide) (by decide) rfl (by decide) (by decide) d_DL_init_71 ?_
  refine jc_dup hx d_DL_init_74 rfl ?_
  refine jc_initN hx ((CC_FlashLog_71 (l := l) hg).to (ι_71)) mo_FlashLog_init t_178 t_177 rfl (by decide) rfl rfl (Nat.le_of_ble_eq_true rfl) (by decide) (by decide) (by decide) (fun j _ => (Nat.add_assoc 0 71 j).symm) rfl (by decide) (by decide) d_DL_init_75 ?_
  refine jc_putF (ty := .object "DonkeyLight$FlashLog") hx ck_DL 6 (by decide) t_332 rfl rfl (by decide +kernel) rfl rfl (Nat.le_of_ble_eq_true rfl) rfl d_DL_init_78 (fun j _ h => Nat.lt_of_lt_of_le h (by decide)) rfl ?_
  refine jc_aload_n hx d_DL_init_81 rfl 0 rfl ?_
  refine jc_new hx ck_Work zbl_10 t_190 t_191 t_8 (by decide) (by decide) rfl (by decide) (by decide) d_DL_init_82 ?_
  refine jc_dup hx d_DL_init_85 rfl ?_
  refine jc_initN hx ((CC_Work_74 (l := l) hg).to (ι_74)) mo_Work_init t_193 t_192 rfl (by decide) rfl rfl (Nat.le_of_ble_eq_true rfl) (by decide) (by decide) (by decide) (fun j _ => (Nat.add_assoc 0 74 j).symm) rfl (by decide) (by decide) d_DL_init_86 ?_
  refine jc_putF (ty := .object "DonkeyLight$Work") hx ck_DL 7 (by decide) t_333 rfl rfl (by decide +kernel) rfl rfl (Nat.le_of_ble_eq_true rfl) rfl d_DL_init_89 (fun j _ h => Nat.lt_of_lt_of_le h (by decide)) rfl ?_
  refine jc_aload_n hx d_DL_init_92 rfl 0 rfl ?_
  refine jc_new hx ck_Nights zbl_4 t_220 t_221 t_9 (by decide) (by decide) rfl (by decide) (by decide) d_DL_init_93 ?_
  refine jc_dup hx d_DL_init_96 rfl ?_
  refine jc_initN hx ((CC_Nights_81 (l := l) hg).to (ι_81)) mo_Nights_init t_223 t_222 rfl (by decide) rfl rfl (Nat.le_of_ble_eq_true rfl) (by decide) (by decide) (by decide) (fun j _ => (Nat.add_assoc 0 81 j).symm) rfl (by decide) (by decide) d_DL_init_97 ?_
  refine jc_putF (ty := .object "DonkeyLight$Nights") hx ck_DL 8 (by decide) t_334 rfl rfl (by decide +kernel) rfl rfl (Nat.le_of_ble_eq_true rfl) rfl d_DL_init_100 (fun j _ h => Nat.lt_of_lt_of_le h (by decide)) rfl ?_
  refine jc_aload_n hx d_DL_init_103 rfl 0 rfl ?_
  refine jc_new hx ck_Passing zbl_5 t_234 t_235 t_10 (by decide) (by decide) rfl (by decide) (by decide) d_DL_init_104 ?_
  refine jc_dup hx d_DL_init_107 rfl ?_
  refine jc_initN hx ((CC_Passing_84 (l := l) hg).to (ι_84)) mo_Passing_init t_237 t_236 rfl (by decide) rfl rfl (Nat.le_of_ble_eq_true rfl) (by decide) (by decide) (by decide) (fun j _ => (Nat.add_assoc 0 84 j).symm) rfl (by decide) (by decide) d_DL_init_108 ?_
  refine jc_putF (ty := .object "DonkeyLight$Passing") hx ck_DL 9 (by decide) t_335 rfl rfl (by decide +kernel) rfl rfl (Nat.le_of_ble_eq_true rfl) rfl d_DL_init_111 (fun j _ h => Nat.lt_of_lt_of_le h (by decide)) rfl ?_
  refine jc_aload_n hx d_DL_init_114 rfl 0 rfl ?_
  refine jc_new hx ck_Plans zbl_6 t_255 t_256 t_11 (by decide) (by decide) rfl (by decide) (by decide) d_DL_init_115 ?_
  refine jc_dup hx d_DL_init_118 rfl ?_
  refine jc_initN hx ((CC_Plans_93 (l := l) hg).to (ι_93)) mo_Plans_init t_258 t_257 rfl (by decide) rfl rfl (Nat.le_of_ble_eq_true rfl) (by decide) (by decide) (by decide) (fun j _ => (Nat.add_assoc 0 93 j).symm) rfl (by decide) (by decide) d_DL_init_119 ?_
  refine jc_putF (ty := .object "DonkeyLight$Plans") hx ck_DL 10 (by decide) t_336 rfl rfl (by decide +kernel) rfl rfl (Nat.le_of_ble_eq_true rfl) rfl d_DL_init_122 (fun j _ h => Nat.lt_of_lt_of_le h (by decide)) rfl ?_
  refine jc_aload_n hx d_DL_init_125 rfl 0 rfl ?_
  refine jc_new hx ck_Winter zbl_9 t_282 t_283 t_12 (by decide) (by decide) rfl (by decide) (by decide) d_DL_init_126 ?_
  refine jc_dup hx d_DL_init_129 rfl ?_
  refine jc_initN hx ((CC_Winter_98 (l := l) hg).to (ι_98)) mo_Winter_init t_285 t_284 rfl (by decide) rfl rfl (Nat.le_of_ble_eq_true rfl) (by decide) (by decide) (by decide) (fun j _ => (Nat.add_assoc 0 98 j).symm) rfl (by decide) (by decide) d_DL_init_130 ?_
  refine jc_putF (ty := .object "DonkeyLight$Winter") hx ck_DL 11 (by decide) t_337 rfl rfl (by decide +kernel) rfl rfl (Nat.le_of_ble_eq_true rfl) rfl d_DL_init_133 (fun j _ h => Nat.lt_of_lt_of_le h (by decide)) rfl ?_
  refine jc_aload_n hx d_DL_init_136 rfl 0 rfl ?_
  refine jc_new hx ck_History zbl_2 t_300 t_301 t_13 (by decide) (by decide) rfl (by decide) (by decide) d_DL_init_137 ?_
  refine jc_dup hx d_DL_init_140 rfl ?_
  refine jc_initN hx ((CC_History_102 (l := l) hg).to (ι_102)) mo_History_init t_303 t_302 rfl (by decide) rfl rfl (Nat.le_of_ble_eq_true rfl) (by decide) (by decide) (by decide) (fun j _ => (Nat.add_assoc 0 102 j).symm) rfl (by decide) (by decide) d_DL_init_141 ?_
  refine jc_putF (ty := .object "DonkeyLight$History") hx ck_DL 12 (by decide) t_338 rfl rfl (by decide +kernel) rfl rfl (Nat.le_of_ble_eq_true rfl) rfl d_DL_init_144 (fun j _ h => Nat.lt_of_lt_of_le h (by decide)) rfl ?_
  refine jc_aload_n hx d_DL_init_147 rfl 0 rfl ?_
  refine jc_new hx ck_Row zbl_7 t_324 t_39 t_3 (by decide) (by decide) rfl (by decide) (by decide) d_DL_init_148 ?_
  refine jc_dup hx d_DL_init_151 rfl ?_
  refine jc_sipush (v := 256) hx d_DL_init_152 (by decide) ?_
  refine jc_init hx (CC_Row (o := 109) (n := 256) (hcon_of hg 109 2 (by decide)) ir_109 (ι_r109) (by decide) (by decide)) mo_Row_init t_41 t_325 rfl (by decide) rfl rfl (Nat.le_of_ble_eq_true rfl) (by decide) (by decide) (by decide) (fun j _ => (Nat.add_assoc 0 109 j).symm) rfl (by decide) (by decide) d_DL_init_155 ?_
  refine jc_putF (ty := .object "DonkeyLight$Row") hx ck_DL 13 (by decide) t_339 rfl rfl (by decide +kernel) rfl rfl (Nat.le_of_ble_eq_true rfl) rfl d_DL_init_158 (fun j _ h => Nat.lt_of_lt_of_le h (by decide)) rfl ?_
  exact jc_vret hx hq d_DL_init_161 (by exact (sh_0 G (ι 0)).symm) (fun _ _ => rfl) rfl rfl
