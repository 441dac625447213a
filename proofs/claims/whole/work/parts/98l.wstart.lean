set_option maxRecDepth 20000 in
theorem zbl_12 : zbl 12 T_Mo 50 := by unfold zbl; decide +kernel
/-! FROM THE ENTRY: the two objects and the array are made; then the loop -/
set_option maxRecDepth 20000 in
set_option maxHeartbeats 4000000 in
theorem whole_start {p : Program} {e : Env} {s : State} {m : MethodId} {below : List Frame} {meth : Method} {c : Code} (l : Launch) (hflags : l.flags = flags0) {b L : Nat} {xs : Nat → Int32} (hL : L ≤ 4096) (C0 : lw_At p s m meth c b L xs) : W p l e room_1 s m #[Value.ref b] below meth c s.heap [] 0 0 (lw_Z below #[Value.ref b] s) (entryFrame m ([Value.ref b] : List Value).toArray 8) := by
  obtain ⟨hx, hb, hr, hml, hown, hts, hX, hbl, hlk, hpre⟩ := C0
  have hTB : ∀ w ∈ TB, w.before #[Value.ref b] s = true := fun w hw => hts w (List.mem_filter.mp hw).1
  have hl9 : l.stackTraces = false := by
    show (!l.flags.contains noTraceFlag) = false
    rw [hflags]
    decide +kernel
  obtain ⟨D, hD⟩ := zD_ex hTB
  obtain ⟨cI, cA, t1, t2, hAO0⟩ := zty_ex (hTB _ t_51) (hts _ (List.mem_append_right _ t_1406))
  obtain ⟨adK, adV, hZ⟩ := zX_ex hts hpre
  obtain ⟨G, eG⟩ : ∃ G : Gz, G = ⟨fun o => s.heap.size + gof o, D, cI, cA, adK, adV⟩ := ⟨_, rfl⟩
  have g0 : G.1 0 = s.heap.size := by rw [eG]; show s.heap.size + gof 0 = _; rw [gof_id 0 (by decide)]; rfl
  have hg : zG G := fun o ho => by rw [g0, eG]
  have hK : va_K G.2.1 zcl (ztys G) s := by
    rw [eG]
    refine ⟨hD, fun k q hq => ?_⟩
    match k, hq with
    | 0, hq => obtain rfl := Option.some.inj hq; exact t1
    | 1, hq => obtain rfl := Option.some.inj hq; exact t2
    | k + 2, hq => exact absurd hq (fun z => by cases z)
  have hAO : zAO G s := by rw [eG]; exact hAO0
  have hZX : zX G (fun q => s.heap.size ≤ q) s s.heap := hZ G (by rw [eG]) (by rw [eG])
  have gk := hg.k
  have hfix : CallFix p m c code 8 s #[Value.ref b] TB "DonkeyLightLaw" := ⟨hx, hb, hml, hown, hTB⟩
  have he := lv_entry [Value.ref b] (n := 8) (by exact Nat.le_of_ble_eq_true rfl)
  rw [lg_entry_eq]
  generalize ((lg_sl [Value.ref b] ++ List.replicate (8 - (lg_sl [Value.ref b]).length) Slot.unset).toArray) = la at he
  -- new DonkeyLight
  refine W.newcK hx hb hown (hTB _ t_24) (hTB _ t_25) (hTB _ t_1) rfl d_L_main_0 (by decide) (by decide) (hK.1 11 _ rfl).2.1 g0.symm fun H1 kC hkC e1 z1 o1 => ?_
  have hblank : va_at G.2.1 zcl (G.1 0, .inr (11, zblank 11)) H1 := by
    obtain ⟨ty, hty⟩ := ck_DL.2.2.1
    refine ⟨_, ck_DL.1, (u_born ty hTB ck_DL.2.1 (hK.1 11 _ rfl) hkC e1 hty).to fun j hj => ?_⟩
    have := zbl_11 j hj
    rw [hty j hj] at this
    exact Option.some.inj this
  have s1 : va_S (fun q => s.heap.size ≤ q) s.heap H1 [] := ⟨by omega, fun x a _ => o1 x (by rw [g0]; exact a), fun x h => by cases h⟩
  refine lv_dup hx hb d_L_main_3 rfl ?_
  have hp1 : PreS s H1 (va_Pc [.ref (G.1 0)] (zBc G 11 0)) (.ref (G.1 0) :: []) := ⟨zBc_blind, fun U hU hW => ⟨rfl, by rw [hU]; exact z1, by rw [hU]; exact hblank, va_K.moved hW.alike hK, hZX.1.warm hW⟩⟩
  have hr1 : va_Run p l e room_1 s m #[Value.ref b] below meth c H1 [] 1 17 110 4816 (F0 m 4 la [.ref (G.1 0), .ref (G.1 0)]) [.ref (G.1 0)] (zQc G 0 111 ι (Value.ref (G.1 0) :: []).toArray) (fun q => G.1 0 ≤ q) := va_runI hfix (CC_DL_0 gk) ⟨callB_of 0 hTB (goodTB mo_DL_init.1) rfl rfl rfl (hTB _ mo_DL_init.2.1) (hTB _ t_26) mo_DL_init.2.2.1 ⟨by decide, by decide⟩, rfl, hTB _ t_27⟩ hp1 rfl rfl he.1 rfl (lv_room (Nat.le_of_ble_eq_true rfl)) d_L_main_4 ⟨by decide, by decide⟩
  refine va_callv hr1 s1 (fun q _ h => by rw [← g0]; exact h) (fun q h => by rw [← g0]; exact h) (fun u t H2 locs2 ht hvm hw hB hz1 hk1 s2 => ?_)
  rw [ht] at hB
  have hcl : ∀ o, o < 111 → va_at G.2.1 zcl (G.1 o, zs G o (ι o)) H2 := fun o ho => by
    have := hB o ho
    rw [Nat.zero_add] at this
    exact this
  refine lv_astore_n hx hb d_L_main_7 rfl he (by decide) (lv' := [(1, .ref (G.1 0)), (0, .ref b)]) rfl (fun la he => ?_)
  -- new DonkeyLightModel
  refine W_sz (fun hs9 => ?_)
  have hH2 : H2.size = G.1 111 := by
    have a := (hcl 110 (by decide)).lt
    have a2 : G.1 110 < H2.size := a
    rw [gk 110 (by decide), g0] at a2
    rw [gk 111 (by decide), g0]
    omega
  refine W.newcK hx hb hown (hTB _ t_1399) (hTB _ t_1400) (hTB _ t_14) rfl d_L_main_8 (by decide) (by decide) (hK.1 12 _ rfl).2.1 hH2 fun H3 kM hkM e3 z3 o3 => ?_
  have hblank3 : va_at G.2.1 zcl (G.1 111, .inr (12, zblank 12)) H3 := by
    obtain ⟨ty, hty⟩ := ck_Mo.2.2.1
    refine ⟨_, ck_Mo.1, (u_born ty hTB ck_Mo.2.1 (hK.1 12 _ rfl) hkM e3 hty).to fun j hj => ?_⟩
    have := zbl_12 j hj
    rw [hty j hj] at this
    exact Option.some.inj this
  have hcl3 : ∀ o, o < 111 → va_at G.2.1 zcl (G.1 o, zs G o (ι o)) H3 := fun o ho => (hcl o ho).kept (o3 _ (by rw [← hH2]; exact (hcl o ho).lt))
  have s3 : va_S (fun q => s.heap.size ≤ q) s.heap H3 locs2 := ⟨Nat.le_trans s2.1 (by omega), fun x a c9 => (o3 x (by rw [← hH2]; exact Nat.lt_of_lt_of_le a s2.1)).trans (s2.2.1 x a c9), s2.2.2⟩
  refine lv_dup hx hb d_L_main_11 rfl ?_
  have hp3 : PreS s H3 (va_Pc [.ref (G.1 111)] (zBm G)) (.ref (G.1 111) :: []) := ⟨zBm_blind, fun U hU hW => ⟨rfl, by rw [hU]; exact z3, by rw [hU]; exact hblank3, by rw [hU]; exact hcl3, va_K.moved hW.alike hK, by rw [hU, g0]; exact (hZX.kept s3.2.1).warm hW, hAO.moved hW.alike⟩⟩
  have hr3 : va_Run p l e room_1 s m #[Value.ref b] below meth c H3 locs2 112 4883 498 4526 (F0 m 12 la [.ref (G.1 111), .ref (G.1 111)]) [.ref (G.1 111)] (zQm G (Value.ref (G.1 111) :: []).toArray) (fun q => G.1 0 ≤ q) := va_runI hfix (CM hg) ⟨callB_of 0 hTB (goodTB mo_Mo_init.1) rfl rfl rfl (hTB _ mo_Mo_init.2.1) (hTB _ t_1401) mo_Mo_init.2.2.1 ⟨by decide, by decide⟩, rfl, hTB _ t_1402⟩ hp3 rfl rfl he.1 rfl (lv_room (Nat.le_of_ble_eq_true rfl)) d_L_main_12 ⟨by decide, by decide⟩
  refine va_callv hr3 s3 (fun q _ h => by rw [← g0]; exact h) (fun q h => by rw [← g0]; exact h) (fun u4 t4 H4 locs4 ht4 hvm4 hw4 hB4 hz4 hk4 s4 => ?_)
  obtain rfl := hw4
  rw [ht4] at hB4
  refine lv_astore_n hx hb d_L_main_15 rfl he (by decide) (lv' := [(2, .ref (G.1 111)), (1, .ref (G.1 0)), (0, .ref b)]) rfl (fun la he => ?_)
  -- long[1]
  refine lv_iconst hx hb (v := 1) d_L_main_16 (by decide) ?_
  refine va_newaK (atype := .long) (N := 1) hx hb (hTB _ t_1979) rfl d_L_main_17 rfl (by decide) (by decide) (by decide) (by decide) (by decide) rfl fun H5 cL e5 z5 o5 hAr hNm => ?_
  have hlt : ∀ o, o < 610 → G.1 o < H4.size := fun o ho => (hB4 o _ (zw_get ho)).lt
  have hP5 : va_P G.2.1 zcl (zwo G σ0 H4.size cL 0) H5 := fun k q hq => by
    rcases zwo_inv hq with ⟨h2, rfl⟩ | ⟨h2, rfl⟩
    · exact (hB4 k _ (zw_get h2)).kept (o5 _ (hlt k h2))
    · exact e5
  have s5 : va_S (fun q => s.heap.size ≤ q) s.heap H5 locs4 := ⟨Nat.le_trans s4.1 (by omega), fun x a c9 => (o5 x (Nat.lt_of_lt_of_le a s4.1)).trans (s4.2.1 x a c9), s4.2.2⟩
  refine lv_astore_n hx hb d_L_main_19 rfl he (by decide) (lv' := [(3, .ref H4.size), (2, .ref (G.1 111)), (1, .ref (G.1 0)), (0, .ref b)]) rfl (fun la he => ?_)
  refine lv_iconst hx hb (v := 0) d_L_main_20 (by decide) ?_
  refine lv_istore hx hb d_L_main_21 he (by decide) (lv' := [(4, .int (nI (8 * 0))), (3, .ref H4.size), (2, .ref (G.1 111)), (1, .ref (G.1 0)), (0, .ref b)]) rfl (fun la he => ?_)
  have hKo : va_K G.2.1 zcl (ztyo G cL) s := ⟨hK.1, fun k q hq => by
    match k, hq with
    | 0, hq => exact hK.2 0 q hq
    | 1, hq => exact hK.2 1 q hq
    | 2, hq => obtain rfl := Option.some.inj hq; exact ⟨hAr, hNm⟩
    | k + 3, hq => exact absurd hq (fun z => by cases z)⟩
  have hGl : Gl G H4.size cL (fun q => s.heap.size ≤ q) ⟨p, e, room_1, s, m, #[Value.ref b], below, meth, c, lw_Z below #[Value.ref b] s⟩ b L xs := ⟨⟨hx, hb, hml, hown, hTB, hlk, ⟨(show 1000 ≤ 2048 by decide), (show 60 * 1000 ≤ 84000 by decide)⟩, hKo, hg.i, hZX, fun o ho => ⟨by rw [hg o ho, g0]; exact Nat.le_add_right _ _, Nat.ne_of_lt (hlt o ho)⟩, s4.1, fun q h => h⟩, ⟨hX, hbl, Nat.not_le.mpr hbl⟩, hL⟩
  have hloop := law_loop hl9 hg.i (fun o ho => Nat.ne_of_lt (hlt o ho)) hGl (fun σ v c9 n9 ls hc hn H locs la hp hs hl => va_forget hs.2.2 (fun T hT X => lw_ret hx hb hr hlk d_L_main_2424 T hT (stand_widen X hc hn))) 513 0 σ0 0 611 9410 (by omega) (by omega) RV0 (show 611 + 513 + 1 ≤ 601024 by decide) (show 9410 + 6 * 513 + 6 ≤ 7293034 by decide)
  exact hloop H5 locs4 la hP5 s5 he
