theorem JC.own {l : Launch} {G : Gz} {X : Cx} {nL : Nat} {τ : St} {en : Nat → Nat} {E E' : va_E} {p : Nat} {pd : Option Nat} {c9 n9 pc : Nat} {ls : List (Nat × Value)} {st : List Value} (h : E = E') (K : JC l G X nL τ en E' p pd c9 n9 pc ls st) : JC l G X nL τ en E p pd c9 n9 pc ls st := h ▸ K
/-! the reference's constructor, to where its arrays stand -/
theorem enM_1 : enM 1 = 112 := by decide +kernel
theorem enM_2 : enM 2 = 113 := by decide +kernel
theorem enM_3 : enM 3 = 114 := by decide +kernel
theorem enM_4 : enM 4 = 115 := by decide +kernel
theorem enM_5 : enM 5 = 116 := by decide +kernel
theorem enM_6 : enM 6 = 117 := by decide +kernel
theorem enM_7 : enM 7 = 118 := by decide +kernel
theorem enM_8 : enM 8 = 119 := by decide +kernel
theorem enM_9 : enM 9 = 124 := by decide +kernel
theorem enR_9 : ∀ j, j < 6 → enM (9 + 1 + j) = 137 + j := by decide +kernel
theorem enM_16 : enM 16 = 125 := by decide +kernel
theorem enR_16 : ∀ j, j < 6 → enM (16 + 1 + j) = 143 + j := by decide +kernel
theorem enM_23 : enM 23 = 126 := by decide +kernel
theorem enR_23 : ∀ j, j < 3 → enM (23 + 1 + j) = 149 + j := by decide +kernel
theorem enM_27 : enM 27 = 127 := by decide +kernel
theorem enR_27 : ∀ j, j < 3 → enM (27 + 1 + j) = 152 + j := by decide +kernel
theorem enM_31 : enM 31 = 128 := by decide +kernel
theorem enR_31 : ∀ j, j < 6 → enM (31 + 1 + j) = 155 + j := by decide +kernel
theorem enM_38 : enM 38 = 129 := by decide +kernel
theorem enR_38 : ∀ j, j < 6 → enM (38 + 1 + j) = 161 + j := by decide +kernel
theorem enM_45 : enM 45 = 130 := by decide +kernel
theorem enR_45 : ∀ j, j < 160 → enM (45 + 1 + j) = 167 + j := by decide +kernel
theorem enM_206 : enM 206 = 131 := by decide +kernel
theorem enR_206 : ∀ j, j < 160 → enM (206 + 1 + j) = 327 + j := by decide +kernel
theorem enM_367 : enM 367 = 132 := by decide +kernel
theorem enR_367 : ∀ j, j < 12 → enM (367 + 1 + j) = 487 + j := by decide +kernel
theorem enM_380 : enM 380 = 133 := by decide +kernel
theorem enR_380 : ∀ j, j < 12 → enM (380 + 1 + j) = 499 + j := by decide +kernel
theorem enM_393 : enM 393 = 120 := by decide +kernel
theorem enM_394 : enM 394 = 121 := by decide +kernel
theorem enM_395 : enM 395 = 134 := by decide +kernel
theorem enR_395 : ∀ j, j < 80 → enM (395 + 1 + j) = 511 + j := by decide +kernel
theorem enM_476 : enM 476 = 122 := by decide +kernel
theorem enM_477 : enM 477 = 123 := by decide +kernel
theorem enM_478 : enM 478 = 135 := by decide +kernel
theorem enR_478 : ∀ j, j < 16 → enM (478 + 1 + j) = 591 + j := by decide +kernel
theorem enM_495 : enM 495 = 136 := by decide +kernel
theorem enR_495 : ∀ j, j < 3 → enM (495 + 1 + j) = 607 + j := by decide +kernel
set_option maxRecDepth 20000 in
set_option maxHeartbeats 16000000 in
theorem mo_walk {l : Launch} {G : Gz} {X : Cx} {k : Nat} {en : Nat → Nat} (e_1 : en 1 = 112) (e_2 : en 2 = 113) (e_3 : en 3 = 114) (e_4 : en 4 = 115) (e_5 : en 5 = 116) (e_6 : en 6 = 117) (e_7 : en 7 = 118) (e_8 : en 8 = 119) (e_9 : en 9 = 124) (r_9 : ∀ j, j < 6 → en (9 + 1 + j) = 137 + j) (e_16 : en 16 = 125) (r_16 : ∀ j, j < 6 → en (16 + 1 + j) = 143 + j) (e_23 : en 23 = 126) (r_23 : ∀ j, j < 3 → en (23 + 1 + j) = 149 + j) (e_27 : en 27 = 127) (r_27 : ∀ j, j < 3 → en (27 + 1 + j) = 152 + j) (e_31 : en 31 = 128) (r_31 : ∀ j, j < 6 → en (31 + 1 + j) = 155 + j) (e_38 : en 38 = 129) (r_38 : ∀ j, j < 6 → en (38 + 1 + j) = 161 + j) (e_45 : en 45 = 130) (r_45 : ∀ j, j < 160 → en (45 + 1 + j) = 167 + j) (e_206 : en 206 = 131) (r_206 : ∀ j, j < 160 → en (206 + 1 + j) = 327 + j) (e_367 : en 367 = 132) (r_367 : ∀ j, j < 12 → en (367 + 1 + j) = 487 + j) (e_380 : en 380 = 133) (r_380 : ∀ j, j < 12 → en (380 + 1 + j) = 499 + j) (e_393 : en 393 = 120) (e_394 : en 394 = 121) (e_395 : en 395 = 134) (r_395 : ∀ j, j < 80 → en (395 + 1 + j) = 511 + j) (e_476 : en 476 = 122) (e_477 : en 477 = 123) (e_478 : en 478 = 135) (r_478 : ∀ j, j < 16 → en (478 + 1 + j) = 591 + j) (e_495 : en 495 = 136) (r_495 : ∀ j, j < 3 → en (495 + 1 + j) = 607 + j) (h0k : 0 < k) (hx : Gk G X prog_14_method_1_code 1 "DonkeyLightModel" k en 499 498 4526) (hAO : zAO G (xs X)) (K9 : JC l G X 1 ι en (zs G 111 (ι 111)) 499 none 498 4526 251 [(0, .ref (G.1 (en 0)))] []) : JC l G X 1 ι en (.inr (12, zblank 12)) 1 none 0 0 0 [(0, .ref (G.1 (en 0)))] [] := by
  have hz9 : ∀ q, 111 < q → ι q = fun _ => 0 := fun q hq => by
    rw [ι_q (by omega)]
    unfold ι1
    rw [up_o (by omega), up_o (by omega), up_o (by omega), up_o (by omega)]
    rfl
  refine jc_aload_n hx d_Mo_init_0 rfl 0 rfl ?_
  refine jc_obj hx t_1404 t_30 t_oc h0k rfl d_Mo_init_1 ?_
  refine jc_aload_n hx d_Mo_init_4 rfl 0 rfl ?_
  refine jc_iconst (v := -1) hx d_Mo_init_5 (by decide) ?_
  refine jc_putI hx ck_Mo 3 (by decide) t_1421 rfl (Nat.le_of_ble_eq_true rfl) rfl d_Mo_init_6 (fun j _ h => Nat.lt_of_lt_of_le h (by decide)) rfl ?_
  refine JC.own (E' := .inr (12, [.int 0, .int 0, .int 0, .int (-1), .int 0, .int 0, .int 0, .int 0, .int 0, .null, .null, .null, .null, .null, .null, .null, .null, .null, .null, .null, .null, .null, .null, .int 0, .int 0, .null, .null, .null, .null, .null, .null, .null, .int 0, .null, .null, .null, .null, .int 0, .int 0, .int 0, .int 0, .int 0, .int 0, .int 0, .int 0, .int 0, .int 0, .int 0, .int 0, .int 0])) rfl ?_
  refine jc_aload_n hx d_Mo_init_9 rfl 0 rfl ?_
  refine jc_sipush (v := 600) hx d_Mo_init_10 (by decide) ?_
  refine jc_newa hx (by decide) (N := 600) (by decide) (by decide) t_51 (by rw [e_1]; exact ia_112.2 _ _) (by decide) (by decide) rfl (by decide) (by decide) d_Mo_init_13 ?_
  refine JC.stk (by rw [show en 1 = 112 from e_1]) ?_
  refine jc_putF (ty := .array .int) hx ck_Mo 9 (by decide) t_1427 rfl rfl (by decide +kernel) rfl rfl (Nat.le_of_ble_eq_true rfl) rfl d_Mo_init_15 (fun j _ h => Nat.lt_of_lt_of_le h (by decide)) rfl ?_
  refine JC.own (E' := .inr (12, [.int 0, .int 0, .int 0, .int (-1), .int 0, .int 0, .int 0, .int 0, .int 0, .ref (G.1 112), .null, .null, .null, .null, .null, .null, .null, .null, .null, .null, .null, .null, .null, .int 0, .int 0, .null, .null, .null, .null, .null, .null, .null, .int 0, .null, .null, .null, .null, .int 0, .int 0, .int 0, .int 0, .int 0, .int 0, .int 0, .int 0, .int 0, .int 0, .int 0, .int 0, .int 0])) rfl ?_
  refine jc_aload_n hx d_Mo_init_18 rfl 0 rfl ?_
  refine jc_iconst (v := 2) hx d_Mo_init_19 (by decide) ?_
  refine jc_newa hx (by decide) (N := 2) (by decide) (by decide) t_51 (by rw [e_2]; exact ia_113.2 _ _) (by decide) (by decide) rfl (by decide) (by decide) d_Mo_init_20 ?_
  refine JC.stk (by rw [show en 2 = 113 from e_2]) ?_
  refine jc_putF (ty := .array .int) hx ck_Mo 10 (by decide) t_1428 rfl rfl (by decide +kernel) rfl rfl (Nat.le_of_ble_eq_true rfl) rfl d_Mo_init_22 (fun j _ h => Nat.lt_of_lt_of_le h (by decide)) rfl ?_
  refine JC.own (E' := .inr (12, [.int 0, .int 0, .int 0, .int (-1), .int 0, .int 0, .int 0, .int 0, .int 0, .ref (G.1 112), .ref (G.1 113), .null, .null, .null, .null, .null, .null, .null, .null, .null, .null, .null, .null, .int 0, .int 0, .null, .null, .null, .null, .null, .null, .null, .int 0, .null, .null, .null, .null, .int 0, .int 0, .int 0, .int 0, .int 0, .int 0, .int 0, .int 0, .int 0, .int 0, .int 0, .int 0, .int 0])) rfl ?_
  refine jc_aload_n hx d_Mo_init_25 rfl 0 rfl ?_
  refine jc_bipush (v := 6) hx d_Mo_init_26 (by decide) ?_
  refine jc_newa hx (by decide) (N := 6) (by decide) (by decide) t_51 (by rw [e_3]; exact ia_114.2 _ _) (by decide) (by decide) rfl (by decide) (by decide) d_Mo_init_28 ?_
  refine JC.stk (by rw [show en 3 = 114 from e_3]) ?_
  refine jc_putF (ty := .array .int) hx ck_Mo 11 (by decide) t_1429 rfl rfl (by decide +kernel) rfl rfl (Nat.le_of_ble_eq_true rfl) rfl d_Mo_init_30 (fun j _ h => Nat.lt_of_lt_of_le h (by decide)) rfl ?_
  refine JC.own (E' := .inr (12, [.int 0, .int 0, .int 0, .int (-1), .int 0, .int 0, .int 0, .int 0, .int 0, .ref (G.1 112), .ref (G.1 113), .ref (G.1 114), .null, .null, .null, .null, .null, .null, .null, .null, .null, .null, .null, .int 0, .int 0, .null, .null, .null, .null, .null, .null, .null, .int 0, .null, .null, .null, .null, .int 0, .int 0, .int 0, .int 0, .int 0, .int 0, .int 0, .int 0, .int 0, .int 0, .int 0, .int 0, .int 0])) rfl ?_
  refine jc_aload_n hx d_Mo_init_33 rfl 0 rfl ?_
  refine jc_bipush (v := 6) hx d_Mo_init_34 (by decide) ?_
  refine jc_newa hx (by decide) (N := 6) (by decide) (by decide) t_51 (by rw [e_4]; exact ia_115.2 _ _) (by decide) (by decide) rfl (by decide) (by decide) d_Mo_init_36 ?_
  refine JC.stk (by rw [show en 4 = 115 from e_4]) ?_
  refine jc_putF (ty := .array .int) hx ck_Mo 12 (by decide) t_1430 rfl rfl (by decide +kernel) rfl rfl (Nat.le_of_ble_eq_true rfl) rfl d_Mo_init_38 (fun j _ h => Nat.lt_of_lt_of_le h (by decide)) rfl ?_
  refine JC.own (E' := .inr (12, [.int 0, .int 0, .int 0, .int (-1), .int 0, .int 0, .int 0, .int 0, .int 0, .ref (G.1 112), .ref (G.1 113), .ref (G.1 114), .ref (G.1 115), .null, .null, .null, .null, .null, .null, .null, .null, .null, .null, .int 0, .int 0, .null, .null, .null, .null, .null, .null, .null, .int 0, .null, .null, .null, .null, .int 0, .int 0, .int 0, .int 0, .int 0, .int 0, .int 0, .int 0, .int 0, .int 0, .int 0, .int 0, .int 0])) rfl ?_
  refine jc_aload_n hx d_Mo_init_41 rfl 0 rfl ?_
  refine jc_bipush (v := 12) hx d_Mo_init_42 (by decide) ?_
  refine jc_newa hx (by decide) (N := 12) (by decide) (by decide) t_51 (by rw [e_5]; exact ia_116.2 _ _) (by decide) (by decide) rfl (by decide) (by decide) d_Mo_init_44 ?_
  refine JC.stk (by rw [show en 5 = 116 from e_5]) ?_
  refine jc_putF (ty := .array .int) hx ck_Mo 13 (by decide) t_1431 rfl rfl (by decide +kernel) rfl rfl (Nat.le_of_ble_eq_true rfl) rfl d_Mo_init_46 (fun j _ h => Nat.lt_of_lt_of_le h (by decide)) rfl ?_
  refine JC.own (E' := .inr (12, [.int 0, .int 0, .int 0, .int (-1), .int 0, .int 0, .int 0, .int 0, .int 0, .ref (G.1 112), .ref (G.1 113), .ref (G.1 114), .ref (G.1 115), .ref (G.1 116), .null, .null, .null, .null, .null, .null, .null, .null, .null, .int 0, .int 0, .null, .null, .null, .null, .null, .null, .null, .int 0, .null, .null, .null, .null, .int 0, .int 0, .int 0, .int 0, .int 0, .int 0, .int 0, .int 0, .int 0, .int 0, .int 0, .int 0, .int 0])) rfl ?_
  refine jc_aload_n hx d_Mo_init_49 rfl 0 rfl ?_
  refine jc_bipush (v := 12) hx d_Mo_init_50 (by decide) ?_
  refine jc_newa hx (by decide) (N := 12) (by decide) (by decide) t_51 (by rw [e_6]; exact ia_117.2 _ _) (by decide) (by decide) rfl (by decide) (by decide) d_Mo_init_52 ?_
  refine JC.stk (by rw [show en 6 = 117 from e_6]) ?_
  refine jc_putF (ty := .array .int) hx ck_Mo 14 (by decide) t_1432 rfl rfl (by decide +kernel) rfl rfl (Nat.le_of_ble_eq_true rfl) rfl d_Mo_init_54 (fun j _ h => Nat.lt_of_lt_of_le h (by decide)) rfl ?_
  refine JC.own (E' := .inr (12, [.int 0, .int 0, .int 0, .int (-1), .int 0, .int 0, .int 0, .int 0, .int 0, .ref (G.1 112), .ref (G.1 113), .ref (G.1 114), .ref (G.1 115), .ref (G.1 116), .ref (G.1 117), .null, .null, .null, .null, .null, .null, .null, .null, .int 0, .int 0, .null, .null, .null, .null, .null, .null, .null, .int 0, .null, .null, .null, .null, .int 0, .int 0, .int 0, .int 0, .int 0, .int 0, .int 0, .int 0, .int 0, .int 0, .int 0, .int 0, .int 0])) rfl ?_
  refine jc_aload_n hx d_Mo_init_57 rfl 0 rfl ?_
  refine jc_bipush (v := 6) hx d_Mo_init_58 (by decide) ?_
  refine jc_newa hx (by decide) (N := 6) (by decide) (by decide) t_51 (by rw [e_7]; exact ia_118.2 _ _) (by decide) (by decide) rfl (by decide) (by decide) d_Mo_init_60 ?_
  refine JC.stk (by rw [show en 7 = 118 from e_7]) ?_
  refine jc_putF (ty := .array .int) hx ck_Mo 15 (by decide) t_1433 rfl rfl (by decide +kernel) rfl rfl (Nat.le_of_ble_eq_true rfl) rfl d_Mo_init_62 (fun j _ h => Nat.lt_of_lt_of_le h (by decide)) rfl ?_
  refine JC.own (E' := .inr (12, [.int 0, .int 0, .int 0, .int (-1), .int 0, .int 0, .int 0, .int 0, .int 0, .ref (G.1 112), .ref (G.1 113), .ref (G.1 114), .ref (G.1 115), .ref (G.1 116), .ref (G.1 117), .ref (G.1 118), .null, .null, .null, .null, .null, .null, .null, .int 0, .int 0, .null, .null, .null, .null, .null, .null, .null, .int 0, .null, .null, .null, .null, .int 0, .int 0, .int 0, .int 0, .int 0, .int 0, .int 0, .int 0, .int 0, .int 0, .int 0, .int 0, .int 0])) rfl ?_
  refine jc_aload_n hx d_Mo_init_65 rfl 0 rfl ?_
  refine jc_bipush (v := 6) hx d_Mo_init_66 (by decide) ?_
  refine jc_newa hx (by decide) (N := 6) (by decide) (by decide) t_51 (by rw [e_8]; exact ia_119.2 _ _) (by decide) (by decide) rfl (by decide) (by decide) d_Mo_init_68 ?_
  refine JC.stk (by rw [show en 8 = 119 from e_8]) ?_
  refine jc_putF (ty := .array .int) hx ck_Mo 16 (by decide) t_1434 rfl rfl (by decide +kernel) rfl rfl (Nat.le_of_ble_eq_true rfl) rfl d_Mo_init_70 (fun j _ h => Nat.lt_of_lt_of_le h (by decide)) rfl ?_
  refine JC.own (E' := .inr (12, [.int 0, .int 0, .int 0, .int (-1), .int 0, .int 0, .int 0, .int 0, .int 0, .ref (G.1 112), .ref (G.1 113), .ref (G.1 114), .ref (G.1 115), .ref (G.1 116), .ref (G.1 117), .ref (G.1 118), .ref (G.1 119), .null, .null, .null, .null, .null, .null, .int 0, .int 0, .null, .null, .null, .null, .null, .null, .null, .int 0, .null, .null, .null, .null, .int 0, .int 0, .int 0, .int 0, .int 0, .int 0, .int 0, .int 0, .int 0, .int 0, .int 0, .int 0, .int 0])) rfl ?_
  refine jc_aload_n hx d_Mo_init_73 rfl 0 rfl ?_
  refine jc_bipush (v := 6) hx d_Mo_init_74 (by decide) ?_
  refine jc_iconst (v := 2) hx d_Mo_init_76 (by decide) ?_
  refine jc_mna hx hAO t_1405 (by decide) (by decide) (N := 6) (K := 2) (by decide) (by decide) (by decide) (by decide) e_9 r_9 ias_readLight (fun j _ => hz9 _ (by omega)) (by decide) (by decide) rfl (by decide) (by decide) d_Mo_init_77 ?_
  refine jc_putF (ty := .array (.array .int)) hx ck_Mo 17 (by decide) t_1435 rfl rfl (by decide +kernel) rfl rfl (Nat.le_of_ble_eq_true rfl) rfl d_Mo_init_81 (fun j _ h => Nat.lt_of_lt_of_le h (by decide)) rfl ?_
  refine JC.own (E' := .inr (12, [.int 0, .int 0, .int 0, .int (-1), .int 0, .int 0, .int 0, .int 0, .int 0, .ref (G.1 112), .ref (G.1 113), .ref (G.1 114), .ref (G.1 115), .ref (G.1 116), .ref (G.1 117), .ref (G.1 118), .ref (G.1 119), .ref (G.1 124), .null, .null, .null, .null, .null, .int 0, .int 0, .null, .null, .null, .null, .null, .null, .null, .int 0, .null, .null, .null, .null, .int 0, .int 0, .int 0, .int 0, .int 0, .int 0, .int 0, .int 0, .int 0, .int 0, .int 0, .int 0, .int 0])) rfl ?_
  refine jc_aload_n hx d_Mo_init_84 rfl 0 rfl ?_
  refine jc_bipush (v := 6) hx d_Mo_init_85 (by decide) ?_
  refine jc_iconst (v := 2) hx d_Mo_init_87 (by decide) ?_
  refine jc_mna hx hAO t_1405 (by decide) (by decide) (N := 6) (K := 2) (by decide) (by decide) (by decide) (by decide) e_16 r_16 ias_light (fun j _ => hz9 _ (by omega)) (by decide) (by decide) rfl (by decide) (by decide) d_Mo_init_88 ?_
  refine jc_putF (ty := .array (.array .int)) hx ck_Mo 18 (by decide) t_1436 rfl rfl (by decide +kernel) rfl rfl (Nat.le_of_ble_eq_true rfl) rfl d_Mo_init_92 (fun j _ h => Nat.lt_of_lt_of_le h (by decide)) rfl ?_
  refine JC.own (E' := .inr (12, [.int 0, .int 0, .int 0, .int (-1), .int 0, .int 0, .int 0, .int 0, .int 0, .ref (G.1 112), .ref (G.1 113), .ref (G.1 114), .ref (G.1 115), .ref (G.1 116), .ref (G.1 117), .ref (G.1 118), .ref (G.1 119), .ref (G.1 124), .ref (G.1 125), .null, .null, .null, .null, .int 0, .int 0, .null, .null, .null, .null, .null, .null, .null, .int 0, .null, .null, .null, .null, .int 0, .int 0, .int 0, .int 0, .int 0, .int 0, .int 0, .int 0, .int 0, .int 0, .int 0, .int 0, .int 0])) rfl ?_
  refine jc_aload_n hx d_Mo_init_95 rfl 0 rfl ?_
  refine jc_iconst (v := 3) hx d_Mo_init_96 (by decide) ?_
  refine jc_iconst (v := 2) hx d_Mo_init_97 (by decide) ?_
  refine jc_mna hx hAO t_1405 (by decide) (by decide) (N := 3) (K := 2) (by decide) (by decide) (by decide) (by decide) e_23 r_23 ias_readDonkey (fun j _ => hz9 _ (by omega)) (by decide) (by decide) rfl (by decide) (by decide) d_Mo_init_98 ?_
  refine jc_putF (ty := .array (.array .int)) hx ck_Mo 19 (by decide) t_1437 rfl rfl (by decide +kernel) rfl rfl (Nat.le_of_ble_eq_true rfl) rfl d_Mo_init_102 (fun j _ h => Nat.lt_of_lt_of_le h (by decide)) rfl ?_
  refine JC.own (E' := .inr (12, [.int 0, .int 0, .int 0, .int (-1), .int 0, .int 0, .int 0, .int 0, .int 0, .ref (G.1 112), .ref (G.1 113), .ref (G.1 114), .ref (G.1 115), .ref (G.1 116), .ref (G.1 117), .ref (G.1 118), .ref (G.1 119), .ref (G.1 124), .ref (G.1 125), .ref (G.1 126), .null, .null, .null, .int 0, .int 0, .null, .null, .null, .null, .null, .null, .null, .int 0, .null, .null, .null, .null, .int 0, .int 0, .int 0, .int 0, .int 0, .int 0, .int 0, .int 0, .int 0, .int 0, .int 0, .int 0, .int 0])) rfl ?_
  refine jc_aload_n hx d_Mo_init_105 rfl 0 rfl ?_
  refine jc_iconst (v := 3) hx d_Mo_init_106 (by decide) ?_
  refine jc_iconst (v := 2) hx d_Mo_init_107 (by decide) ?_
  refine jc_mna hx hAO t_1405 (by decide) (by decide) (N := 3) (K := 2) (by decide) (by decide) (by decide) (by decide) e_27 r_27 ias_donkey (fun j _ => hz9 _ (by omega)) (by decide) (by decide) rfl (by decide) (by decide) d_Mo_init_108 ?_
  refine jc_putF (ty := .array (.array .int)) hx ck_Mo 20 (by decide) t_1438 rfl rfl (by decide +kernel) rfl rfl (Nat.le_of_ble_eq_true rfl) rfl d_Mo_init_112 (fun j _ h => Nat.lt_of_lt_of_le h (by decide)) rfl ?_
  refine JC.own (E' := .inr (12, [.int 0, .int 0, .int 0, .int (-1), .int 0, .int 0, .int 0, .int 0, .int 0, .ref (G.1 112), .ref (G.1 113), .ref (G.1 114), .ref (G.1 115), .ref (G.1 116), .ref (G.1 117), .ref (G.1 118), .ref (G.1 119), .ref (G.1 124), .ref (G.1 125), .ref (G.1 126), .ref (G.1 127), .null, .null, .int 0, .int 0, .null, .null, .null, .null, .null, .null, .null, .int 0, .null, .null, .null, .null, .int 0, .int 0, .int 0, .int 0, .int 0, .int 0, .int 0, .int 0, .int 0, .int 0, .int 0, .int 0, .int 0])) rfl ?_
  refine jc_aload_n hx d_Mo_init_115 rfl 0 rfl ?_
  refine jc_bipush (v := 6) hx d_Mo_init_116 (by decide) ?_
  refine jc_iconst (v := 4) hx d_Mo_init_118 (by decide) ?_
  refine jc_mna hx hAO t_1405 (by decide) (by decide) (N := 6) (K := 4) (by decide) (by decide) (by decide) (by decide) e_31 r_31 ias_readShip (fun j _ => hz9 _ (by omega)) (by decide) (by decide) rfl (by decide) (by decide) d_Mo_init_119 ?_
  refine jc_putF (ty := .array (.array .int)) hx ck_Mo 21 (by decide) t_1439 rfl rfl (by decide +kernel) rfl rfl (Nat.le_of_ble_eq_true rfl) rfl d_Mo_init_123 (fun j _ h => Nat.lt_of_lt_of_le h (by decide)) rfl ?_
  refine JC.own (E' := .inr (12, [.int 0, .int 0, .int 0, .int (-1), .int 0, .int 0, .int 0, .int 0, .int 0, .ref (G.1 112), .ref (G.1 113), .ref (G.1 114), .ref (G.1 115), .ref (G.1 116), .ref (G.1 117), .ref (G.1 118), .ref (G.1 119), .ref (G.1 124), .ref (G.1 125), .ref (G.1 126), .ref (G.1 127), .ref (G.1 128), .null, .int 0, .int 0, .null, .null, .null, .null, .null, .null, .null, .int 0, .null, .null, .null, .null, .int 0, .int 0, .int 0, .int 0, .int 0, .int 0, .int 0, .int 0, .int 0, .int 0, .int 0, .int 0, .int 0])) rfl ?_
  refine jc_aload_n hx d_Mo_init_126 rfl 0 rfl ?_
  refine jc_bipush (v := 6) hx d_Mo_init_127 (by decide) ?_
  refine jc_iconst (v := 4) hx d_Mo_init_129 (by decide) ?_
  refine jc_mna hx hAO t_1405 (by decide) (by decide) (N := 6) (K := 4) (by decide) (by decide) (by decide) (by decide) e_38 r_38 ias_ship (fun j _ => hz9 _ (by omega)) (by decide) (by decide) rfl (by decide) (by decide) d_Mo_init_130 ?_
  refine jc_putF (ty := .array (.array .int)) hx ck_Mo 22 (by decide) t_1440 rfl rfl (by decide +kernel) rfl rfl (Nat.le_of_ble_eq_true rfl) rfl d_Mo_init_134 (fun j _ h => Nat.lt_of_lt_of_le h (by decide)) rfl ?_
  refine JC.own (E' := .inr (12, [.int 0, .int 0, .int 0, .int (-1), .int 0, .int 0, .int 0, .int 0, .int 0, .ref (G.1 112), .ref (G.1 113), .ref (G.1 114), .ref (G.1 115), .ref (G.1 116), .ref (G.1 117), .ref (G.1 118), .ref (G.1 119), .ref (G.1 124), .ref (G.1 125), .ref (G.1 126), .ref (G.1 127), .ref (G.1 128), .ref (G.1 129), .int 0, .int 0, .null, .null, .null, .null, .null, .null, .null, .int 0, .null, .null, .null, .null, .int 0, .int 0, .int 0, .int 0, .int 0, .int 0, .int 0, .int 0, .int 0, .int 0, .int 0, .int 0, .int 0])) rfl ?_
  refine jc_aload_n hx d_Mo_init_137 rfl 0 rfl ?_
  refine jc_sipush (v := 160) hx d_Mo_init_138 (by decide) ?_
  refine jc_iconst (v := 2) hx d_Mo_init_141 (by decide) ?_
  refine jc_mna hx hAO t_1405 (by decide) (by decide) (N := 160) (K := 2) (by decide) (by decide) (by decide) (by decide) e_45 r_45 ias_law (fun j _ => hz9 _ (by omega)) (by decide) (by decide) rfl (by decide) (by decide) d_Mo_init_142 ?_
  refine jc_putF (ty := .array (.array .int)) hx ck_Mo 25 (by decide) t_1443 rfl rfl (by decide +kernel) rfl rfl (Nat.le_of_ble_eq_true rfl) rfl d_Mo_init_146 (fun j _ h => Nat.lt_of_lt_of_le h (by decide)) rfl ?_
  refine JC.own (E' := .inr (12, [.int 0, .int 0, .int 0, .int (-1), .int 0, .int 0, .int 0, .int 0, .int 0, .ref (G.1 112), .ref (G.1 113), .ref (G.1 114), .ref (G.1 115), .ref (G.1 116), .ref (G.1 117), .ref (G.1 118), .ref (G.1 119), .ref (G.1 124), .ref (G.1 125), .ref (G.1 126), .ref (G.1 127), .ref (G.1 128), .ref (G.1 129), .int 0, .int 0, .ref (G.1 130), .null, .null, .null, .null, .null, .null, .int 0, .null, .null, .null, .null, .int 0, .int 0, .int 0, .int 0, .int 0, .int 0, .int 0, .int 0, .int 0, .int 0, .int 0, .int 0, .int 0])) rfl ?_
  refine jc_aload_n hx d_Mo_init_149 rfl 0 rfl ?_
  refine jc_sipush (v := 160) hx d_Mo_init_150 (by decide) ?_
  refine jc_iconst (v := 2) hx d_Mo_init_153 (by decide) ?_
  refine jc_mna hx hAO t_1405 (by decide) (by decide) (N := 160) (K := 2) (by decide) (by decide) (by decide) (by decide) e_206 r_206 ias_readLaw (fun j _ => hz9 _ (by omega)) (by decide) (by decide) rfl (by decide) (by decide) d_Mo_init_154 ?_
  refine jc_putF (ty := .array (.array .int)) hx ck_Mo 26 (by decide) t_1444 rfl rfl (by decide +kernel) rfl rfl (Nat.le_of_ble_eq_true rfl) rfl d_Mo_init_158 (fun j _ h => Nat.lt_of_lt_of_le h (by decide)) rfl ?_
  refine JC.own (E' := .inr (12, [.int 0, .int 0, .int 0, .int (-1), .int 0, .int 0, .int 0, .int 0, .int 0, .ref (G.1 112), .ref (G.1 113), .ref (G.1 114), .ref (G.1 115), .ref (G.1 116), .ref (G.1 117), .ref (G.1 118), .ref (G.1 119), .ref (G.1 124), .ref (G.1 125), .ref (G.1 126), .ref (G.1 127), .ref (G.1 128), .ref (G.1 129), .int 0, .int 0, .ref (G.1 130), .ref (G.1 131), .null, .null, .null, .null, .null, .int 0, .null, .null, .null, .null, .int 0, .int 0, .int 0, .int 0, .int 0, .int 0, .int 0, .int 0, .int 0, .int 0, .int 0, .int 0, .int 0])) rfl ?_
  refine jc_aload_n hx d_Mo_init_161 rfl 0 rfl ?_
  refine jc_bipush (v := 12) hx d_Mo_init_162 (by decide) ?_
  refine jc_iconst (v := 2) hx d_Mo_init_164 (by decide) ?_
  refine jc_mna hx hAO t_1405 (by decide) (by decide) (N := 12) (K := 2) (by decide) (by decide) (by decide) (by decide) e_367 r_367 ias_log (fun j _ => hz9 _ (by omega)) (by decide) (by decide) rfl (by decide) (by decide) d_Mo_init_165 ?_
  refine jc_putF (ty := .array (.array .int)) hx ck_Mo 27 (by decide) t_1445 rfl rfl (by decide +kernel) rfl rfl (Nat.le_of_ble_eq_true rfl) rfl d_Mo_init_169 (fun j _ h => Nat.lt_of_lt_of_le h (by decide)) rfl ?_
  refine JC.own (E' := .inr (12, [.int 0, .int 0, .int 0, .int (-1), .int 0, .int 0, .int 0, .int 0, .int 0, .ref (G.1 112), .ref (G.1 113), .ref (G.1 114), .ref (G.1 115), .ref (G.1 116), .ref (G.1 117), .ref (G.1 118), .ref (G.1 119), .ref (G.1 124), .ref (G.1 125), .ref (G.1 126), .ref (G.1 127), .ref (G.1 128), .ref (G.1 129), .int 0, .int 0, .ref (G.1 130), .ref (G.1 131), .ref (G.1 132), .null, .null, .null, .null, .int 0, .null, .null, .null, .null, .int 0, .int 0, .int 0, .int 0, .int 0, .int 0, .int 0, .int 0, .int 0, .int 0, .int 0, .int 0, .int 0])) rfl ?_
  refine jc_aload_n hx d_Mo_init_172 rfl 0 rfl ?_
  refine jc_bipush (v := 12) hx d_Mo_init_173 (by decide) ?_
  refine jc_iconst (v := 2) hx d_Mo_init_175 (by decide) ?_
  refine jc_mna hx hAO t_1405 (by decide) (by decide) (N := 12) (K := 2) (by decide) (by decide) (by decide) (by decide) e_380 r_380 ias_readLog (fun j _ => hz9 _ (by omega)) (by decide) (by decide) rfl (by decide) (by decide) d_Mo_init_176 ?_
  refine jc_putF (ty := .array (.array .int)) hx ck_Mo 28 (by decide) t_1446 rfl rfl (by decide +kernel) rfl rfl (Nat.le_of_ble_eq_true rfl) rfl d_Mo_init_180 (fun j _ h => Nat.lt_of_lt_of_le h (by decide)) rfl ?_
  refine JC.own (E' := .inr (12, [.int 0, .int 0, .int 0, .int (-1), .int 0, .int 0, .int 0, .int 0, .int 0, .ref (G.1 112), .ref (G.1 113), .ref (G.1 114), .ref (G.1 115), .ref (G.1 116), .ref (G.1 117), .ref (G.1 118), .ref (G.1 119), .ref (G.1 124), .ref (G.1 125), .ref (G.1 126), .ref (G.1 127), .ref (G.1 128), .ref (G.1 129), .int 0, .int 0, .ref (G.1 130), .ref (G.1 131), .ref (G.1 132), .ref (G.1 133), .null, .null, .null, .int 0, .null, .null, .null, .null, .int 0, .int 0, .int 0, .int 0, .int 0, .int 0, .int 0, .int 0, .int 0, .int 0, .int 0, .int 0, .int 0])) rfl ?_
  refine jc_aload_n hx d_Mo_init_183 rfl 0 rfl ?_
  refine jc_sipush (v := 160) hx d_Mo_init_184 (by decide) ?_
  refine jc_newa hx (by decide) (N := 160) (by decide) (by decide) t_51 (by rw [e_393]; exact ia_120.2 _ _) (by decide) (by decide) rfl (by decide) (by decide) d_Mo_init_187 ?_
  refine JC.stk (by rw [show en 393 = 120 from e_393]) ?_
  refine jc_putF (ty := .array .int) hx ck_Mo 29 (by decide) t_1447 rfl rfl (by decide +kernel) rfl rfl (Nat.le_of_ble_eq_true rfl) rfl d_Mo_init_189 (fun j _ h => Nat.lt_of_lt_of_le h (by decide)) rfl ?_
  refine JC.own (E' := .inr (12, [.int 0, .int 0, .int 0, .int (-1), .int 0, .int 0, .int 0, .int 0, .int 0, .ref (G.1 112), .ref (G.1 113), .ref (G.1 114), .ref (G.1 115), .ref (G.1 116), .ref (G.1 117), .ref (G.1 118), .ref (G.1 119), .ref (G.1 124), .ref (G.1 125), .ref (G.1 126), .ref (G.1 127), .ref (G.1 128), .ref (G.1 129), .int 0, .int 0, .ref (G.1 130), .ref (G.1 131), .ref (G.1 132), .ref (G.1 133), .ref (G.1 120), .null, .null, .int 0, .null, .null, .null, .null, .int 0, .int 0, .int 0, .int 0, .int 0, .int 0, .int 0, .int 0, .int 0, .int 0, .int 0, .int 0, .int 0])) rfl ?_
  refine jc_aload_n hx d_Mo_init_192 rfl 0 rfl ?_
  refine jc_bipush (v := 9) hx d_Mo_init_193 (by decide) ?_
  refine jc_newa hx (by decide) (N := 9) (by decide) (by decide) t_51 (by rw [e_394]; exact ia_121.2 _ _) (by decide) (by decide) rfl (by decide) (by decide) d_Mo_init_195 ?_
  refine JC.stk (by rw [show en 394 = 121 from e_394]) ?_
  refine jc_putF (ty := .array .int) hx ck_Mo 30 (by decide) t_1448 rfl rfl (by decide +kernel) rfl rfl (Nat.le_of_ble_eq_true rfl) rfl d_Mo_init_197 (fun j _ h => Nat.lt_of_lt_of_le h (by decide)) rfl ?_
  refine JC.own (E' := .inr (12, [.int 0, .int 0, .int 0, .int (-1), .int 0, .int 0, .int 0, .int 0, .int 0, .ref (G.1 112), .ref (G.1 113), .ref (G.1 114), .ref (G.1 115), .ref (G.1 116), .ref (G.1 117), .ref (G.1 118), .ref (G.1 119), .ref (G.1 124), .ref (G.1 125), .ref (G.1 126), .ref (G.1 127), .ref (G.1 128), .ref (G.1 129), .int 0, .int 0, .ref (G.1 130), .ref (G.1 131), .ref (G.1 132), .ref (G.1 133), .ref (G.1 120), .ref (G.1 121), .null, .int 0, .null, .null, .null, .null, .int 0, .int 0, .int 0, .int 0, .int 0, .int 0, .int 0, .int 0, .int 0, .int 0, .int 0, .int 0, .int 0])) rfl ?_
  refine jc_aload_n hx d_Mo_init_200 rfl 0 rfl ?_
  refine jc_bipush (v := 80) hx d_Mo_init_201 (by decide) ?_
  refine jc_iconst (v := 4) hx d_Mo_init_203 (by decide) ?_
  refine jc_mna hx hAO t_1405 (by decide) (by decide) (N := 80) (K := 4) (by decide) (by decide) (by decide) (by decide) e_395 r_395 ias_step (fun j _ => hz9 _ (by omega)) (by decide) (by decide) rfl (by decide) (by decide) d_Mo_init_204 ?_
  refine jc_putF (ty := .array (.array .int)) hx ck_Mo 31 (by decide) t_1449 rfl rfl (by decide +kernel) rfl rfl (Nat.le_of_ble_eq_true rfl) rfl d_Mo_init_208 (fun j _ h => Nat.lt_of_lt_of_le h (by decide)) rfl ?_
  refine JC.own (E' := .inr (12, [.int 0, .int 0, .int 0, .int (-1), .int 0, .int 0, .int 0, .int 0, .int 0, .ref (G.1 112), .ref (G.1 113), .ref (G.1 114), .ref (G.1 115), .ref (G.1 116), .ref (G.1 117), .ref (G.1 118), .ref (G.1 119), .ref (G.1 124), .ref (G.1 125), .ref (G.1 126), .ref (G.1 127), .ref (G.1 128), .ref (G.1 129), .int 0, .int 0, .ref (G.1 130), .ref (G.1 131), .ref (G.1 132), .ref (G.1 133), .ref (G.1 120), .ref (G.1 121), .ref (G.1 134), .int 0, .null, .null, .null, .null, .int 0, .int 0, .int 0, .int 0, .int 0, .int 0, .int 0, .int 0, .int 0, .int 0, .int 0, .int 0, .int 0])) rfl ?_
  refine jc_aload_n hx d_Mo_init_211 rfl 0 rfl ?_
  refine jc_bipush (v := 31) hx d_Mo_init_212 (by decide) ?_
  refine jc_newa hx (by decide) (N := 31) (by decide) (by decide) t_51 (by rw [e_476]; exact ia_122.2 _ _) (by decide) (by decide) rfl (by decide) (by decide) d_Mo_init_214 ?_
  refine JC.stk (by rw [show en 476 = 122 from e_476]) ?_
  refine jc_putF (ty := .array .int) hx ck_Mo 33 (by decide) t_1451 rfl rfl (by decide +kernel) rfl rfl (Nat.le_of_ble_eq_true rfl) rfl d_Mo_init_216 (fun j _ h => Nat.lt_of_lt_of_le h (by decide)) rfl ?_
  refine JC.own (E' := .inr (12, [.int 0, .int 0, .int 0, .int (-1), .int 0, .int 0, .int 0, .int 0, .int 0, .ref (G.1 112), .ref (G.1 113), .ref (G.1 114), .ref (G.1 115), .ref (G.1 116), .ref (G.1 117), .ref (G.1 118), .ref (G.1 119), .ref (G.1 124), .ref (G.1 125), .ref (G.1 126), .ref (G.1 127), .ref (G.1 128), .ref (G.1 129), .int 0, .int 0, .ref (G.1 130), .ref (G.1 131), .ref (G.1 132), .ref (G.1 133), .ref (G.1 120), .ref (G.1 121), .ref (G.1 134), .int 0, .ref (G.1 122), .null, .null, .null, .int 0, .int 0, .int 0, .int 0, .int 0, .int 0, .int 0, .int 0, .int 0, .int 0, .int 0, .int 0, .int 0])) rfl ?_
  refine jc_aload_n hx d_Mo_init_219 rfl 0 rfl ?_
  refine jc_bipush (v := 31) hx d_Mo_init_220 (by decide) ?_
  refine jc_newa hx (by decide) (N := 31) (by decide) (by decide) t_51 (by rw [e_477]; exact ia_123.2 _ _) (by decide) (by decide) rfl (by decide) (by decide) d_Mo_init_222 ?_
  refine JC.stk (by rw [show en 477 = 123 from e_477]) ?_
  refine jc_putF (ty := .array .int) hx ck_Mo 34 (by decide) t_1452 rfl rfl (by decide +kernel) rfl rfl (Nat.le_of_ble_eq_true rfl) rfl d_Mo_init_224 (fun j _ h => Nat.lt_of_lt_of_le h (by decide)) rfl ?_
  refine JC.own (E' := .inr (12, [.int 0, .int 0, .int 0, .int (-1), .int 0, .int 0, .int 0, .int 0, .int 0, .ref (G.1 112), .ref (G.1 113), .ref (G.1 114), .ref (G.1 115), .ref (G.1 116), .ref (G.1 117), .ref (G.1 118), .ref (G.1 119), .ref (G.1 124), .ref (G.1 125), .ref (G.1 126), .ref (G.1 127), .ref (G.1 128), .ref (G.1 129), .int 0, .int 0, .ref (G.1 130), .ref (G.1 131), .ref (G.1 132), .ref (G.1 133), .ref (G.1 120), .ref (G.1 121), .ref (G.1 134), .int 0, .ref (G.1 122), .ref (G.1 123), .null, .null, .int 0, .int 0, .int 0, .int 0, .int 0, .int 0, .int 0, .int 0, .int 0, .int 0, .int 0, .int 0, .int 0])) rfl ?_
  refine jc_aload_n hx d_Mo_init_227 rfl 0 rfl ?_
  refine jc_bipush (v := 16) hx d_Mo_init_228 (by decide) ?_
  refine jc_bipush (v := 31) hx d_Mo_init_230 (by decide) ?_
  refine jc_mna hx hAO t_1405 (by decide) (by decide) (N := 16) (K := 31) (by decide) (by decide) (by decide) (by decide) e_478 r_478 ias_before (fun j _ => hz9 _ (by omega)) (by decide) (by decide) rfl (by decide) (by decide) d_Mo_init_232 ?_
  refine jc_putF (ty := .array (.array .int)) hx ck_Mo 35 (by decide) t_1453 rfl rfl (by decide +kernel) rfl rfl (Nat.le_of_ble_eq_true rfl) rfl d_Mo_init_236 (fun j _ h => Nat.lt_of_lt_of_le h (by decide)) rfl ?_
  refine JC.own (E' := .inr (12, [.int 0, .int 0, .int 0, .int (-1), .int 0, .int 0, .int 0, .int 0, .int 0, .ref (G.1 112), .ref (G.1 113), .ref (G.1 114), .ref (G.1 115), .ref (G.1 116), .ref (G.1 117), .ref (G.1 118), .ref (G.1 119), .ref (G.1 124), .ref (G.1 125), .ref (G.1 126), .ref (G.1 127), .ref (G.1 128), .ref (G.1 129), .int 0, .int 0, .ref (G.1 130), .ref (G.1 131), .ref (G.1 132), .ref (G.1 133), .ref (G.1 120), .ref (G.1 121), .ref (G.1 134), .int 0, .ref (G.1 122), .ref (G.1 123), .ref (G.1 135), .null, .int 0, .int 0, .int 0, .int 0, .int 0, .int 0, .int 0, .int 0, .int 0, .int 0, .int 0, .int 0, .int 0])) rfl ?_
  refine jc_aload_n hx d_Mo_init_239 rfl 0 rfl ?_
  refine jc_iconst (v := 3) hx d_Mo_init_240 (by decide) ?_
  refine jc_sipush (v := 528) hx d_Mo_init_241 (by decide) ?_
  refine jc_mna hx hAO t_1405 (by decide) (by decide) (N := 3) (K := 528) (by decide) (by decide) (by decide) (by decide) e_495 r_495 ias_kept (fun j _ => hz9 _ (by omega)) (by decide) (by decide) rfl (by decide) (by decide) d_Mo_init_244 ?_
  refine jc_putF (ty := .array (.array .int)) hx ck_Mo 36 (by decide) t_1454 rfl rfl (by decide +kernel) rfl rfl (Nat.le_of_ble_eq_true rfl) rfl d_Mo_init_248 (fun j _ h => Nat.lt_of_lt_of_le h (by decide)) rfl ?_
  refine JC.own (E' := .inr (12, [.int 0, .int 0, .int 0, .int (-1), .int 0, .int 0, .int 0, .int 0, .int 0, .ref (G.1 112), .ref (G.1 113), .ref (G.1 114), .ref (G.1 115), .ref (G.1 116), .ref (G.1 117), .ref (G.1 118), .ref (G.1 119), .ref (G.1 124), .ref (G.1 125), .ref (G.1 126), .ref (G.1 127), .ref (G.1 128), .ref (G.1 129), .int 0, .int 0, .ref (G.1 130), .ref (G.1 131), .ref (G.1 132), .ref (G.1 133), .ref (G.1 120), .ref (G.1 121), .ref (G.1 134), .int 0, .ref (G.1 122), .ref (G.1 123), .ref (G.1 135), .ref (G.1 136), .int 0, .int 0, .int 0, .int 0, .int 0, .int 0, .int 0, .int 0, .int 0, .int 0, .int 0, .int 0, .int 0])) rfl ?_
  exact JC.own (E' := zs G 111 (ι 111)) (by rw [ι_q (q := 111) (by decide)]; exact (sh_111 G (ι1 111)).symm) K9
def mo_args : Unit := ()
