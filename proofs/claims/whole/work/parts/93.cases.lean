/-! THE LAW'S CASES -/
theorem nI_pl (a d : Nat) : nI a + nI d = nI (a + d) := (Int32.ofNat_add a d).symm
abbrev zLS (G : Gz) (ao sb j : Nat) : List (Nat × Value) := [(4, .int (nI (8 * j))), (3, .ref ao), (2, .ref (G.1 111)), (1, .ref (G.1 0)), (0, .ref sb)]
/-- the law's own surroundings: its bytes, its script -/
def Gl (G : Gz) (ao : Nat) (cL : ClassId) (A : Nat → Prop) (X : Cx) (sb L : Nat) (ks : Nat → Int32) : Prop := Go G ao cL A X code 8 "DonkeyLightLaw" 1000 ∧ (va_X sb L ks (xs X) (xs X).heap ∧ sb < (xs X).heap.size ∧ ¬ A sb) ∧ L ≤ 4096
section LC
variable {l : Launch} {G : Gz} {ao : Nat} {cL : ClassId} {A : Nat → Prop} {X : Cx} {sb L j : Nat} {ks : Nat → Int32} {σ σ1 σ2 : St} {w9 v1 : Int64} {c9 n9 : Nat} {kk : Int32} {k1 k2 : Nat}
theorem lc_feed (hg : Gl G ao cL A X sb L ks) (hj : 8 * j + 8 ≤ L) {a1 : Int32} (e1 : ks (8 * j + 1) = a1) {a2 : Int32} (e2 : ks (8 * j + 2) = a2) {a3 : Int32} (e3 : ks (8 * j + 3) = a3) {a4 : Int32} (e4 : ks (8 * j + 4) = a4) {a5 : Int32} (e5 : ks (8 * j + 5) = a5) {r : Int32} (hC : MI l G y_DL_feed prog_1_method_2_code 6 .int k1 [.ref (G.1 0), .int a1, .int a2, .int a3, .int a4, .int a5] σ r σ1) (hk1 : k1 < 1000) (hM : MI l G y_Mo_feed prog_14_method_9_code 8 .int k2 [.ref (G.1 111), .int a1, .int a2, .int a3, .int a4, .int a5] σ1 r σ2) (hk2 : k2 < 1000) (hr : c9 ≤ (xR X).cells ∧ n9 ≤ (xR X).slots) (K : JO l G ao cL A X 8 σ2 w9 c9 n9 2417 (zLS G ao sb j) []) : JO l G ao cL A X 8 σ w9 c9 n9 208 (zLS G ao sb j) [] := by
  subst e1
  subst e2
  subst e3
  subst e4
  subst e5
  obtain ⟨hx, hS, hL⟩ := hg
  refine jo_aload_n hx d_L_main_208 rfl 3 rfl ?_
  refine jo_aload_n hx d_L_main_209 rfl 4 rfl ?_
  refine jo_iload hx d_L_main_210 0 rfl ?_
  refine jo_iconst (v := 1) hx d_L_main_212 (by decide) ?_
  refine jo_iadd hx d_L_main_213 ?_
  refine jo_sld hx hS hL (i := 8 * j + 1) (by omega) (nI_pl (8 * j) 1) d_L_main_214 ?_
  refine jo_aload_n hx d_L_main_215 rfl 4 rfl ?_
  refine jo_iload hx d_L_main_216 0 rfl ?_
  refine jo_iconst (v := 2) hx d_L_main_218 (by decide) ?_
  refine jo_iadd hx d_L_main_219 ?_
  refine jo_sld hx hS hL (i := 8 * j + 2) (by omega) (nI_pl (8 * j) 2) d_L_main_220 ?_
  refine jo_aload_n hx d_L_main_221 rfl 4 rfl ?_
  refine jo_iload hx d_L_main_222 0 rfl ?_
  refine jo_iconst (v := 3) hx d_L_main_224 (by decide) ?_
  refine jo_iadd hx d_L_main_225 ?_
  refine jo_sld hx hS hL (i := 8 * j + 3) (by omega) (nI_pl (8 * j) 3) d_L_main_226 ?_
  refine jo_aload_n hx d_L_main_227 rfl 4 rfl ?_
  refine jo_iload hx d_L_main_228 0 rfl ?_
  refine jo_iconst (v := 4) hx d_L_main_230 (by decide) ?_
  refine jo_iadd hx d_L_main_231 ?_
  refine jo_sld hx hS hL (i := 8 * j + 4) (by omega) (nI_pl (8 * j) 4) d_L_main_232 ?_
  refine jo_aload_n hx d_L_main_233 rfl 4 rfl ?_
  refine jo_iload hx d_L_main_234 0 rfl ?_
  refine jo_iconst (v := 5) hx d_L_main_236 (by decide) ?_
  refine jo_iadd hx d_L_main_237 ?_
  refine jo_sld hx hS hL (i := 8 * j + 5) (by omega) (nI_pl (8 * j) 5) d_L_main_238 ?_
  refine jo_callVi hx hC mo_DL_feed mv_DL_feed t_378 hk1 rfl (by decide) (sh_0 _ _) rfl rfl (Nat.le_of_ble_eq_true rfl) d_L_main_239 hr ?_
  refine jo_aload_n hx d_L_main_242 rfl 2 rfl ?_
  refine jo_aload_n hx d_L_main_243 rfl 4 rfl ?_
  refine jo_iload hx d_L_main_244 0 rfl ?_
  refine jo_iconst (v := 1) hx d_L_main_246 (by decide) ?_
  refine jo_iadd hx d_L_main_247 ?_
  refine jo_sld hx hS hL (i := 8 * j + 1) (by omega) (nI_pl (8 * j) 1) d_L_main_248 ?_
  refine jo_aload_n hx d_L_main_249 rfl 4 rfl ?_
  refine jo_iload hx d_L_main_250 0 rfl ?_
  refine jo_iconst (v := 2) hx d_L_main_252 (by decide) ?_
  refine jo_iadd hx d_L_main_253 ?_
  refine jo_sld hx hS hL (i := 8 * j + 2) (by omega) (nI_pl (8 * j) 2) d_L_main_254 ?_
  refine jo_aload_n hx d_L_main_255 rfl 4 rfl ?_
  refine jo_iload hx d_L_main_256 0 rfl ?_
  refine jo_iconst (v := 3) hx d_L_main_258 (by decide) ?_
  refine jo_iadd hx d_L_main_259 ?_
  refine jo_sld hx hS hL (i := 8 * j + 3) (by omega) (nI_pl (8 * j) 3) d_L_main_260 ?_
  refine jo_aload_n hx d_L_main_261 rfl 4 rfl ?_
  refine jo_iload hx d_L_main_262 0 rfl ?_
  refine jo_iconst (v := 4) hx d_L_main_264 (by decide) ?_
  refine jo_iadd hx d_L_main_265 ?_
  refine jo_sld hx hS hL (i := 8 * j + 4) (by omega) (nI_pl (8 * j) 4) d_L_main_266 ?_
  refine jo_aload_n hx d_L_main_267 rfl 4 rfl ?_
  refine jo_iload hx d_L_main_268 0 rfl ?_
  refine jo_iconst (v := 5) hx d_L_main_270 (by decide) ?_
  refine jo_iadd hx d_L_main_271 ?_
  refine jo_sld hx hS hL (i := 8 * j + 5) (by omega) (nI_pl (8 * j) 5) d_L_main_272 ?_
  refine jo_callVi hx hM mo_Mo_feed mv_Mo_feed t_1573 hk2 rfl (by decide) (sh_111 _ _) rfl rfl (Nat.le_of_ble_eq_true rfl) d_L_main_273 hr ?_
  exact jo_icmp_eq (tgt := 2417) hx d_L_main_276 (by decide) (fun _ => K) (fun h1 => absurd rfl h1)
theorem lc_coast (hg : Gl G ao cL A X sb L ks) (hG : zI G) (hj : 8 * j + 8 ≤ L) {a1 : Int32} (e1 : ks (8 * j + 1) = a1) {r : Int32} (hW : WO l G ao cL y_L_coast method_3_code 4 [(0, 9, 12, 13)] k1 [.ref (G.1 0), .int a1, .ref ao] σ w9 kk σ1 v1) (hk1 : k1 < 1000) (hM : MI l G y_Mo_coast prog_14_method_28_code 2 .int k2 [.ref (G.1 111), .int a1] σ1 r σ2) (hk2 : k2 < 1000) (hth : σ2 111 0 = kk) (hv : kk = 0 → v1 = r.toInt64) (hr : c9 + 1 ≤ (xR X).cells ∧ n9 + 6 ≤ (xR X).slots) (K : JO l G ao cL A X 8 σ2 v1 (c9 + 1) (n9 + 6) 2417 (zLS G ao sb j) []) : JO l G ao cL A X 8 σ w9 c9 n9 281 (zLS G ao sb j) [] := by
  subst e1
  obtain ⟨hx, hS, hL⟩ := hg
  refine jo_aload_n hx d_L_main_281 rfl 3 rfl ?_
  refine jo_aload_n hx d_L_main_282 rfl 4 rfl ?_
  refine jo_iload hx d_L_main_283 0 rfl ?_
  refine jo_iconst (v := 1) hx d_L_main_285 (by decide) ?_
  refine jo_iadd hx d_L_main_286 ?_
  refine jo_sld hx hS hL (i := 8 * j + 1) (by omega) (nI_pl (8 * j) 1) d_L_main_287 ?_
  refine jo_aload_n hx d_L_main_288 rfl 1 rfl ?_
  refine jo_callW (n := 3) hx hW t_551 t_550 t_549 t_0 ⟨by decide, by decide, by decide +kernel⟩ (by decide) hk1 rfl rfl (Nat.le_of_ble_eq_true rfl) d_L_main_289 hr ?_
  refine jo_istore hx ([(5, .int kk), (4, .int (nI (8 * j))), (3, .ref ao), (2, .ref (G.1 111)), (1, .ref (G.1 0)), (0, .ref sb)]) d_L_main_292 (by decide) rfl ?_
  refine jo_aload_n hx d_L_main_294 rfl 3 rfl ?_
  refine jo_aload_n hx d_L_main_295 rfl 5 rfl ?_
  refine jo_iload hx d_L_main_296 1 rfl ?_
  refine jo_iconst (v := 1) hx d_L_main_298 (by decide) ?_
  refine jo_iadd hx d_L_main_299 ?_
  refine jo_sld hx hS hL (i := 8 * j + 1) (by omega) (nI_pl (8 * j) 1) d_L_main_300 ?_
  refine jo_callVi hx hM mo_Mo_coast mv_Mo_coast t_1577 hk2 rfl (by decide) (sh_111 _ _) rfl rfl (Nat.le_of_ble_eq_true rfl) d_L_main_301 hr ?_
  refine jo_istore hx ([(6, .int r), (5, .int kk), (4, .int (nI (8 * j))), (3, .ref ao), (2, .ref (G.1 111)), (1, .ref (G.1 0)), (0, .ref sb)]) d_L_main_304 (by decide) rfl ?_
  refine jo_aload_n hx d_L_main_306 rfl 4 rfl ?_
  refine jo_callVi hx (c_Mo_thrown hG σ2) mo_Mo_thrown mv_Mo_thrown t_1569 (by decide) rfl (by decide) (sh_111 _ _) rfl rfl (Nat.le_of_ble_eq_true rfl) d_L_main_307 hr ?_
  refine jo_iload hx d_L_main_310 1 rfl ?_
  refine jo_icmp_eq (tgt := 317) hx d_L_main_312 (by decide) (fun h1 => ?_) (fun h1 => absurd hth h1)
  refine jo_iload hx d_L_main_317 1 rfl ?_
  refine jo_if_ne (tgt := 334) hx d_L_main_319 (by decide) (fun h2 => ?_) (fun h2 => ?_)
  · skip
    refine jo_goto (tgt := 2417) hx d_L_main_334 (by decide) ?_
    exact JO.lsub [2, 3, 4, 5, 6] rfl K
  · skip
    refine jo_aload_n hx d_L_main_322 rfl 3 rfl ?_
    refine jo_iconst (v := 0) hx d_L_main_323 (by decide) ?_
    refine jo_lald hx rfl d_L_main_324 ?_
    refine jo_iload hx d_L_main_325 0 rfl ?_
    refine jo_i2l hx d_L_main_327 rfl ?_
    refine jo_lcmp hx d_L_main_328 ?_
    refine jo_if_eq (tgt := 334) hx d_L_main_329 (by decide) (fun h4 => ?_) (fun h4 => absurd ((lg_cmp_eq _ _).mpr (hv h2)) h4)
    refine jo_goto (tgt := 2417) hx d_L_main_334 (by decide) ?_
    exact JO.lsub [2, 3, 4, 5, 6] rfl K
theorem lc_law (hg : Gl G ao cL A X sb L ks) (hG : zI G) (hj : 8 * j + 8 ≤ L) {a1 : Int32} (e1 : ks (8 * j + 1) = a1) {r : Int32} (hW : WO l G ao cL y_L_law method_4_code 4 [(0, 9, 12, 13)] k1 [.ref (G.1 0), .int a1, .ref ao] σ w9 kk σ1 v1) (hk1 : k1 < 1000) (hM : MI l G y_Mo_law prog_14_method_39_code 2 .int k2 [.ref (G.1 111), .int a1] σ1 r σ2) (hk2 : k2 < 1000) (hth : σ2 111 0 = kk) (hv : kk = 0 → v1 = r.toInt64) (hr : c9 + 1 ≤ (xR X).cells ∧ n9 + 6 ≤ (xR X).slots) (K : JO l G ao cL A X 8 σ2 v1 (c9 + 1) (n9 + 6) 2417 (zLS G ao sb j) []) : JO l G ao cL A X 8 σ w9 c9 n9 337 (zLS G ao sb j) [] := by
  subst e1
  obtain ⟨hx, hS, hL⟩ := hg
  refine jo_aload_n hx d_L_main_337 rfl 3 rfl ?_
  refine jo_aload_n hx d_L_main_338 rfl 4 rfl ?_
  refine jo_iload hx d_L_main_339 0 rfl ?_
  refine jo_iconst (v := 1) hx d_L_main_341 (by decide) ?_
  refine jo_iadd hx d_L_main_342 ?_
  refine jo_sld hx hS hL (i := 8 * j + 1) (by omega) (nI_pl (8 * j) 1) d_L_main_343 ?_
  refine jo_aload_n hx d_L_main_344 rfl 1 rfl ?_
  refine jo_callW (n := 3) hx hW t_786 t_785 t_784 t_0 ⟨by decide, by decide, by decide +kernel⟩ (by decide) hk1 rfl rfl (Nat.le_of_ble_eq_true rfl) d_L_main_345 hr ?_
  refine jo_istore hx ([(5, .int kk), (4, .int (nI (8 * j))), (3, .ref ao), (2, .ref (G.1 111)), (1, .ref (G.1 0)), (0, .ref sb)]) d_L_main_348 (by decide) rfl ?_
  refine jo_aload_n hx d_L_main_350 rfl 3 rfl ?_
  refine jo_aload_n hx d_L_main_351 rfl 5 rfl ?_
  refine jo_iload hx d_L_main_352 1 rfl ?_
  refine jo_iconst (v := 1) hx d_L_main_354 (by decide) ?_
  refine jo_iadd hx d_L_main_355 ?_
  refine jo_sld hx hS hL (i := 8 * j + 1) (by omega) (nI_pl (8 * j) 1) d_L_main_356 ?_
  refine jo_callVi hx hM mo_Mo_law mv_Mo_law t_1649 hk2 rfl (by decide) (sh_111 _ _) rfl rfl (Nat.le_of_ble_eq_true rfl) d_L_main_357 hr ?_
  refine jo_istore hx ([(6, .int r), (5, .int kk), (4, .int (nI (8 * j))), (3, .ref ao), (2, .ref (G.1 111)), (1, .ref (G.1 0)), (0, .ref sb)]) d_L_main_360 (by decide) rfl ?_
  refine jo_aload_n hx d_L_main_362 rfl 4 rfl ?_
  refine jo_callVi hx (c_Mo_thrown hG σ2) mo_Mo_thrown mv_Mo_thrown t_1569 (by decide) rfl (by decide) (sh_111 _ _) rfl rfl (Nat.le_of_ble_eq_true rfl) d_L_main_363 hr ?_
  refine jo_iload hx d_L_main_366 1 rfl ?_
  refine jo_icmp_eq (tgt := 373) hx d_L_main_368 (by decide) (fun h1 => ?_) (fun h1 => absurd hth h1)
  refine jo_iload hx d_L_main_373 1 rfl ?_
  refine jo_if_ne (tgt := 390) hx d_L_main_375 (by decide) (fun h2 => ?_) (fun h2 => ?_)
  · skip
    refine jo_goto (tgt := 2417) hx d_L_main_390 (by decide) ?_
    exact JO.lsub [2, 3, 4, 5, 6] rfl K
  · skip
    refine jo_aload_n hx d_L_main_378 rfl 3 rfl ?_
    refine jo_iconst (v := 0) hx d_L_main_379 (by decide) ?_
    refine jo_lald hx rfl d_L_main_380 ?_
    refine jo_iload hx d_L_main_381 0 rfl ?_
    refine jo_i2l hx d_L_main_383 rfl ?_
    refine jo_lcmp hx d_L_main_384 ?_
    refine jo_if_eq (tgt := 390) hx d_L_main_385 (by decide) (fun h4 => ?_) (fun h4 => absurd ((lg_cmp_eq _ _).mpr (hv h2)) h4)
    refine jo_goto (tgt := 2417) hx d_L_main_390 (by decide) ?_
    exact JO.lsub [2, 3, 4, 5, 6] rfl K
theorem lc_work (hg : Gl G ao cL A X sb L ks) (hG : zI G) (hj : 8 * j + 8 ≤ L) {a1 : Int32} (e1 : ks (8 * j + 1) = a1) {r : Int32} (hW : WO l G ao cL y_L_work method_5_code 4 [(0, 9, 12, 13)] k1 [.ref (G.1 0), .int a1, .ref ao] σ w9 kk σ1 v1) (hk1 : k1 < 1000) (hM : MI l G y_Mo_work prog_14_method_60_code 2 .int k2 [.ref (G.1 111), .int a1] σ1 r σ2) (hk2 : k2 < 1000) (hth : σ2 111 0 = kk) (hv : kk = 0 → v1 = r.toInt64) (hr : c9 + 1 ≤ (xR X).cells ∧ n9 + 6 ≤ (xR X).slots) (K : JO l G ao cL A X 8 σ2 v1 (c9 + 1) (n9 + 6) 2417 (zLS G ao sb j) []) : JO l G ao cL A X 8 σ w9 c9 n9 393 (zLS G ao sb j) [] := by
  subst e1
  obtain ⟨hx, hS, hL⟩ := hg
  refine jo_aload_n hx d_L_main_393 rfl 3 rfl ?_
  refine jo_aload_n hx d_L_main_394 rfl 4 rfl ?_
  refine jo_iload hx d_L_main_395 0 rfl ?_
  refine jo_iconst (v := 1) hx d_L_main_397 (by decide) ?_
  refine jo_iadd hx d_L_main_398 ?_
  refine jo_sld hx hS hL (i := 8 * j + 1) (by omega) (nI_pl (8 * j) 1) d_L_main_399 ?_
  refine jo_aload_n hx d_L_main_400 rfl 1 rfl ?_
  refine jo_callW (n := 3) hx hW t_826 t_825 t_824 t_0 ⟨by decide, by decide, by decide +kernel⟩ (by decide) hk1 rfl rfl (Nat.le_of_ble_eq_true rfl) d_L_main_401 hr ?_
  refine jo_istore hx ([(5, .int kk), (4, .int (nI (8 * j))), (3, .ref ao), (2, .ref (G.1 111)), (1, .ref (G.1 0)), (0, .ref sb)]) d_L_main_404 (by decide) rfl ?_
  refine jo_aload_n hx d_L_main_406 rfl 3 rfl ?_
  refine jo_aload_n hx d_L_main_407 rfl 5 rfl ?_
  refine jo_iload hx d_L_main_408 1 rfl ?_
  refine jo_iconst (v := 1) hx d_L_main_410 (by decide) ?_
  refine jo_iadd hx d_L_main_411 ?_
  refine jo_sld hx hS hL (i := 8 * j + 1) (by omega) (nI_pl (8 * j) 1) d_L_main_412 ?_
  refine jo_callVi hx hM mo_Mo_work mv_Mo_work t_1697 hk2 rfl (by decide) (sh_111 _ _) rfl rfl (Nat.le_of_ble_eq_true rfl) d_L_main_413 hr ?_
  refine jo_istore hx ([(6, .int r), (5, .int kk), (4, .int (nI (8 * j))), (3, .ref ao), (2, .ref (G.1 111)), (1, .ref (G.1 0)), (0, .ref sb)]) d_L_main_416 (by decide) rfl ?_
  refine jo_aload_n hx d_L_main_418 rfl 4 rfl ?_
  refine jo_callVi hx (c_Mo_thrown hG σ2) mo_Mo_thrown mv_Mo_thrown t_1569 (by decide) rfl (by decide) (sh_111 _ _) rfl rfl (Nat.le_of_ble_eq_true rfl) d_L_main_419 hr ?_
  refine jo_iload hx d_L_main_422 1 rfl ?_
  refine jo_icmp_eq (tgt := 429) hx d_L_main_424 (by decide) (fun h1 => ?_) (fun h1 => absurd hth h1)
  refine jo_iload hx d_L_main_429 1 rfl ?_
  refine jo_if_ne (tgt := 446) hx d_L_main_431 (by decide) (fun h2 => ?_) (fun h2 => ?_)
  · skip
    refine jo_goto (tgt := 2417) hx d_L_main_446 (by decide) ?_
    exact JO.lsub [2, 3, 4, 5, 6] rfl K
  · skip
    refine jo_aload_n hx d_L_main_434 rfl 3 rfl ?_
    refine jo_iconst (v := 0) hx d_L_main_435 (by decide) ?_
    refine jo_lald hx rfl d_L_main_436 ?_
    refine jo_iload hx d_L_main_437 0 rfl ?_
    refine jo_i2l hx d_L_main_439 rfl ?_
    refine jo_lcmp hx d_L_main_440 ?_
    refine jo_if_eq (tgt := 446) hx d_L_main_441 (by decide) (fun h4 => ?_) (fun h4 => absurd ((lg_cmp_eq _ _).mpr (hv h2)) h4)
    refine jo_goto (tgt := 2417) hx d_L_main_446 (by decide) ?_
    exact JO.lsub [2, 3, 4, 5, 6] rfl K
theorem lc_log (hg : Gl G ao cL A X sb L ks) (hG : zI G) (hj : 8 * j + 8 ≤ L) {a1 : Int32} (e1 : ks (8 * j + 1) = a1) {r : Int32} (hW : WO l G ao cL y_L_log method_6_code 4 [(0, 9, 12, 13)] k1 [.ref (G.1 0), .int a1, .ref ao] σ w9 kk σ1 v1) (hk1 : k1 < 1000) (hM : MI l G y_Mo_log prog_14_method_44_code 6 .int k2 [.ref (G.1 111), .int a1] σ1 r σ2) (hk2 : k2 < 1000) (hth : σ2 111 0 = kk) (hv : kk = 0 → v1 = r.toInt64) (hr : c9 + 1 ≤ (xR X).cells ∧ n9 + 6 ≤ (xR X).slots) (K : JO l G ao cL A X 8 σ2 v1 (c9 + 1) (n9 + 6) 2417 (zLS G ao sb j) []) : JO l G ao cL A X 8 σ w9 c9 n9 449 (zLS G ao sb j) [] := by
  subst e1
  obtain ⟨hx, hS, hL⟩ := hg
  refine jo_aload_n hx d_L_main_449 rfl 3 rfl ?_
  refine jo_aload_n hx d_L_main_450 rfl 4 rfl ?_
  refine jo_iload hx d_L_main_451 0 rfl ?_
  refine jo_iconst (v := 1) hx d_L_main_453 (by decide) ?_
  refine jo_iadd hx d_L_main_454 ?_
  refine jo_sld hx hS hL (i := 8 * j + 1) (by omega) (nI_pl (8 * j) 1) d_L_main_455 ?_
  refine jo_aload_n hx d_L_main_456 rfl 1 rfl ?_
  refine jo_callW (n := 3) hx hW t_937 t_936 t_935 t_0 ⟨by decide, by decide, by decide +kernel⟩ (by decide) hk1 rfl rfl (Nat.le_of_ble_eq_true rfl) d_L_main_457 hr ?_
  refine jo_istore hx ([(5, .int kk), (4, .int (nI (8 * j))), (3, .ref ao), (2, .ref (G.1 111)), (1, .ref (G.1 0)), (0, .ref sb)]) d_L_main_460 (by decide) rfl ?_
  refine jo_aload_n hx d_L_main_462 rfl 3 rfl ?_
  refine jo_aload_n hx d_L_main_463 rfl 5 rfl ?_
  refine jo_iload hx d_L_main_464 1 rfl ?_
  refine jo_iconst (v := 1) hx d_L_main_466 (by decide) ?_
  refine jo_iadd hx d_L_main_467 ?_
  refine jo_sld hx hS hL (i := 8 * j + 1) (by omega) (nI_pl (8 * j) 1) d_L_main_468 ?_
  refine jo_callVi hx hM mo_Mo_log mv_Mo_log t_1689 hk2 rfl (by decide) (sh_111 _ _) rfl rfl (Nat.le_of_ble_eq_true rfl) d_L_main_469 hr ?_
  refine jo_istore hx ([(6, .int r), (5, .int kk), (4, .int (nI (8 * j))), (3, .ref ao), (2, .ref (G.1 111)), (1, .ref (G.1 0)), (0, .ref sb)]) d_L_main_472 (by decide) rfl ?_
  refine jo_aload_n hx d_L_main_474 rfl 4 rfl ?_
  refine jo_callVi hx (c_Mo_thrown hG σ2) mo_Mo_thrown mv_Mo_thrown t_1569 (by decide) rfl (by decide) (sh_111 _ _) rfl rfl (Nat.le_of_ble_eq_true rfl) d_L_main_475 hr ?_
  refine jo_iload hx d_L_main_478 1 rfl ?_
  refine jo_icmp_eq (tgt := 485) hx d_L_main_480 (by decide) (fun h1 => ?_) (fun h1 => absurd hth h1)
  refine jo_iload hx d_L_main_485 1 rfl ?_
  refine jo_if_ne (tgt := 502) hx d_L_main_487 (by decide) (fun h2 => ?_) (fun h2 => ?_)
  · skip
    refine jo_goto (tgt := 2417) hx d_L_main_502 (by decide) ?_
    exact JO.lsub [2, 3, 4, 5, 6] rfl K
  · skip
    refine jo_aload_n hx d_L_main_490 rfl 3 rfl ?_
    refine jo_iconst (v := 0) hx d_L_main_491 (by decide) ?_
    refine jo_lald hx rfl d_L_main_492 ?_
    refine jo_iload hx d_L_main_493 0 rfl ?_
    refine jo_i2l hx d_L_main_495 rfl ?_
    refine jo_lcmp hx d_L_main_496 ?_
    refine jo_if_eq (tgt := 502) hx d_L_main_497 (by decide) (fun h4 => ?_) (fun h4 => absurd ((lg_cmp_eq _ _).mpr (hv h2)) h4)
    refine jo_goto (tgt := 2417) hx d_L_main_502 (by decide) ?_
    exact JO.lsub [2, 3, 4, 5, 6] rfl K
theorem lc_fault (hg : Gl G ao cL A X sb L ks) (hj : 8 * j + 8 ≤ L) {r : Int32} (hC : MI l G y_DL_fault prog_1_method_7_code 1 .int k1 [.ref (G.1 0)] σ r σ1) (hk1 : k1 < 1000) (hM : MI l G y_Mo_fault prog_14_method_45_code 1 .int k2 [.ref (G.1 111)] σ1 r σ2) (hk2 : k2 < 1000) (hr : c9 ≤ (xR X).cells ∧ n9 ≤ (xR X).slots) (K : JO l G ao cL A X 8 σ2 w9 c9 n9 2417 (zLS G ao sb j) []) : JO l G ao cL A X 8 σ w9 c9 n9 505 (zLS G ao sb j) [] := by
  obtain ⟨hx, hS, hL⟩ := hg
  refine jo_aload_n hx d_L_main_505 rfl 3 rfl ?_
  refine jo_callVi hx hC mo_DL_fault mv_DL_fault t_391 hk1 rfl (by decide) (sh_0 _ _) rfl rfl (Nat.le_of_ble_eq_true rfl) d_L_main_506 hr ?_
  refine jo_aload_n hx d_L_main_509 rfl 2 rfl ?_
  refine jo_callVi hx hM mo_Mo_fault mv_Mo_fault t_1693 hk2 rfl (by decide) (sh_111 _ _) rfl rfl (Nat.le_of_ble_eq_true rfl) d_L_main_510 hr ?_
  exact jo_icmp_eq (tgt := 2417) hx d_L_main_513 (by decide) (fun _ => K) (fun h1 => absurd rfl h1)
theorem lc_undo (hg : Gl G ao cL A X sb L ks) (hj : 8 * j + 8 ≤ L) {r : Int32} (hC : MI l G y_DL_undo prog_1_method_8_code 1 .int k1 [.ref (G.1 0)] σ r σ1) (hk1 : k1 < 1000) (hM : MI l G y_Mo_undo prog_14_method_61_code 1 .int k2 [.ref (G.1 111)] σ1 r σ2) (hk2 : k2 < 1000) (hr : c9 ≤ (xR X).cells ∧ n9 ≤ (xR X).slots) (K : JO l G ao cL A X 8 σ2 w9 c9 n9 2417 (zLS G ao sb j) []) : JO l G ao cL A X 8 σ w9 c9 n9 518 (zLS G ao sb j) [] := by
  obtain ⟨hx, hS, hL⟩ := hg
  refine jo_aload_n hx d_L_main_518 rfl 3 rfl ?_
  refine jo_callVi hx hC mo_DL_undo mv_DL_undo t_399 hk1 rfl (by decide) (sh_0 _ _) rfl rfl (Nat.le_of_ble_eq_true rfl) d_L_main_519 hr ?_
  refine jo_aload_n hx d_L_main_522 rfl 2 rfl ?_
  refine jo_callVi hx hM mo_Mo_undo mv_Mo_undo t_1777 hk2 rfl (by decide) (sh_111 _ _) rfl rfl (Nat.le_of_ble_eq_true rfl) d_L_main_523 hr ?_
  exact jo_icmp_eq (tgt := 2417) hx d_L_main_526 (by decide) (fun _ => K) (fun h1 => absurd rfl h1)
theorem lc_told (hg : Gl G ao cL A X sb L ks) (hG : zI G) (hj : 8 * j + 8 ≤ L) {a1 : Int32} (e1 : ks (8 * j + 1) = a1) {r : Int32} (hW : WO l G ao cL y_L_told method_7_code 4 [(0, 9, 12, 13)] k1 [.ref (G.1 0), .int a1, .ref ao] σ w9 kk σ1 v1) (hk1 : k1 < 1000) (hM : MI l G y_Mo_told prog_14_method_62_code 2 .int k2 [.ref (G.1 111), .int a1] σ1 r σ2) (hk2 : k2 < 1000) (hth : σ2 111 0 = kk) (hv : kk = 0 → v1 = r.toInt64) (hr : c9 + 1 ≤ (xR X).cells ∧ n9 + 6 ≤ (xR X).slots) (K : JO l G ao cL A X 8 σ2 v1 (c9 + 1) (n9 + 6) 2417 (zLS G ao sb j) []) : JO l G ao cL A X 8 σ w9 c9 n9 531 (zLS G ao sb j) [] := by
  subst e1
  obtain ⟨hx, hS, hL⟩ := hg
  refine jo_aload_n hx d_L_main_531 rfl 3 rfl ?_
  refine jo_aload_n hx d_L_main_532 rfl 4 rfl ?_
  refine jo_iload hx d_L_main_533 0 rfl ?_
  refine jo_iconst (v := 1) hx d_L_main_535 (by decide) ?_
  refine jo_iadd hx d_L_main_536 ?_
  refine jo_sld hx hS hL (i := 8 * j + 1) (by omega) (nI_pl (8 * j) 1) d_L_main_537 ?_
  refine jo_aload_n hx d_L_main_538 rfl 1 rfl ?_
  refine jo_callW (n := 3) hx hW t_970 t_969 t_968 t_0 ⟨by decide, by decide, by decide +kernel⟩ (by decide) hk1 rfl rfl (Nat.le_of_ble_eq_true rfl) d_L_main_539 hr ?_
  refine jo_istore hx ([(5, .int kk), (4, .int (nI (8 * j))), (3, .ref ao), (2, .ref (G.1 111)), (1, .ref (G.1 0)), (0, .ref sb)]) d_L_main_542 (by decide) rfl ?_
  refine jo_aload_n hx d_L_main_544 rfl 3 rfl ?_
  refine jo_aload_n hx d_L_main_545 rfl 5 rfl ?_
  refine jo_iload hx d_L_main_546 1 rfl ?_
  refine jo_iconst (v := 1) hx d_L_main_548 (by decide) ?_
  refine jo_iadd hx d_L_main_549 ?_
  refine jo_sld hx hS hL (i := 8 * j + 1) (by omega) (nI_pl (8 * j) 1) d_L_main_550 ?_
  refine jo_callVi hx hM mo_Mo_told mv_Mo_told t_1781 hk2 rfl (by decide) (sh_111 _ _) rfl rfl (Nat.le_of_ble_eq_true rfl) d_L_main_551 hr ?_
  refine jo_istore hx ([(6, .int r), (5, .int kk), (4, .int (nI (8 * j))), (3, .ref ao), (2, .ref (G.1 111)), (1, .ref (G.1 0)), (0, .ref sb)]) d_L_main_554 (by decide) rfl ?_
  refine jo_aload_n hx d_L_main_556 rfl 4 rfl ?_
  refine jo_callVi hx (c_Mo_thrown hG σ2) mo_Mo_thrown mv_Mo_thrown t_1569 (by decide) rfl (by decide) (sh_111 _ _) rfl rfl (Nat.le_of_ble_eq_true rfl) d_L_main_557 hr ?_
  refine jo_iload hx d_L_main_560 1 rfl ?_
  refine jo_icmp_eq (tgt := 567) hx d_L_main_562 (by decide) (fun h1 => ?_) (fun h1 => absurd hth h1)
  refine jo_iload hx d_L_main_567 1 rfl ?_
  refine jo_if_ne (tgt := 584) hx d_L_main_569 (by decide) (fun h2 => ?_) (fun h2 => ?_)
  · skip
    refine jo_goto (tgt := 2417) hx d_L_main_584 (by decide) ?_
    exact JO.lsub [2, 3, 4, 5, 6] rfl K
  · skip
    refine jo_aload_n hx d_L_main_572 rfl 3 rfl ?_
    refine jo_iconst (v := 0) hx d_L_main_573 (by decide) ?_
    refine jo_lald hx rfl d_L_main_574 ?_
    refine jo_iload hx d_L_main_575 0 rfl ?_
    refine jo_i2l hx d_L_main_577 rfl ?_
    refine jo_lcmp hx d_L_main_578 ?_
    refine jo_if_eq (tgt := 584) hx d_L_main_579 (by decide) (fun h4 => ?_) (fun h4 => absurd ((lg_cmp_eq _ _).mpr (hv h2)) h4)
    refine jo_goto (tgt := 2417) hx d_L_main_584 (by decide) ?_
    exact JO.lsub [2, 3, 4, 5, 6] rfl K
theorem lc_cell (hg : Gl G ao cL A X sb L ks) (hG : zI G) (hj : 8 * j + 8 ≤ L) {a1 : Int32} (e1 : ks (8 * j + 1) = a1) {a2 : Int32} (e2 : ks (8 * j + 2) = a2) {r : Int32} (hW : WO l G ao cL y_L_cell method_8_code 5 [(0, 10, 13, 31), (0, 10, 17, 13)] k1 [.ref (G.1 0), .int a1, .int a2, .ref ao] σ w9 kk σ1 v1) (hk1 : k1 < 1000) (hM : MI l G y_Mo_cell prog_14_method_64_code 5 .int k2 [.ref (G.1 111), .int a1, .int a2] σ1 r σ2) (hk2 : k2 < 1000) (hth : σ2 111 0 = kk) (hv : kk = 0 → v1 = r.toInt64) (hr : c9 + 1 ≤ (xR X).cells ∧ n9 + 6 ≤ (xR X).slots) (K : JO l G ao cL A X 8 σ2 v1 (c9 + 1) (n9 + 6) 2417 (zLS G ao sb j) []) : JO l G ao cL A X 8 σ w9 c9 n9 587 (zLS G ao sb j) [] := by
  subst e1
  subst e2
  obtain ⟨hx, hS, hL⟩ := hg
  refine jo_aload_n hx d_L_main_587 rfl 3 rfl ?_
  refine jo_aload_n hx d_L_main_588 rfl 4 rfl ?_
  refine jo_iload hx d_L_main_589 0 rfl ?_
  refine jo_iconst (v := 1) hx d_L_main_591 (by decide) ?_
  refine jo_iadd hx d_L_main_592 ?_
  refine jo_sld hx hS hL (i := 8 * j + 1) (by omega) (nI_pl (8 * j) 1) d_L_main_593 ?_
  refine jo_aload_n hx d_L_main_594 rfl 4 rfl ?_
  refine jo_iload hx d_L_main_595 0 rfl ?_
  refine jo_iconst (v := 2) hx d_L_main_597 (by decide) ?_
  refine jo_iadd hx d_L_main_598 ?_
  refine jo_sld hx hS hL (i := 8 * j + 2) (by omega) (nI_pl (8 * j) 2) d_L_main_599 ?_
  refine jo_aload_n hx d_L_main_600 rfl 1 rfl ?_
  refine jo_callW (n := 4) hx hW t_978 t_977 t_976 t_0 ⟨by decide, by decide, by decide +kernel⟩ (by decide) hk1 rfl rfl (Nat.le_of_ble_eq_true rfl) d_L_main_601 hr ?_
  refine jo_istore hx ([(5, .int kk), (4, .int (nI (8 * j))), (3, .ref ao), (2, .ref (G.1 111)), (1, .ref (G.1 0)), (0, .ref sb)]) d_L_main_604 (by decide) rfl ?_
  refine jo_aload_n hx d_L_main_606 rfl 3 rfl ?_
  refine jo_aload_n hx d_L_main_607 rfl 5 rfl ?_
  refine jo_iload hx d_L_main_608 1 rfl ?_
  refine jo_iconst (v := 1) hx d_L_main_610 (by decide) ?_
  refine jo_iadd hx d_L_main_611 ?_
  refine jo_sld hx hS hL (i := 8 * j + 1) (by omega) (nI_pl (8 * j) 1) d_L_main_612 ?_
  refine jo_aload_n hx d_L_main_613 rfl 5 rfl ?_
  refine jo_iload hx d_L_main_614 1 rfl ?_
  refine jo_iconst (v := 2) hx d_L_main_616 (by decide) ?_
  refine jo_iadd hx d_L_main_617 ?_
  refine jo_sld hx hS hL (i := 8 * j + 2) (by omega) (nI_pl (8 * j) 2) d_L_main_618 ?_
  refine jo_callVi hx hM mo_Mo_cell mv_Mo_cell t_1785 hk2 rfl (by decide) (sh_111 _ _) rfl rfl (Nat.le_of_ble_eq_true rfl) d_L_main_619 hr ?_
  refine jo_istore hx ([(6, .int r), (5, .int kk), (4, .int (nI (8 * j))), (3, .ref ao), (2, .ref (G.1 111)), (1, .ref (G.1 0)), (0, .ref sb)]) d_L_main_622 (by decide) rfl ?_
  refine jo_aload_n hx d_L_main_624 rfl 4 rfl ?_
  refine jo_callVi hx (c_Mo_thrown hG σ2) mo_Mo_thrown mv_Mo_thrown t_1569 (by decide) rfl (by decide) (sh_111 _ _) rfl rfl (Nat.le_of_ble_eq_true rfl) d_L_main_625 hr ?_
  refine jo_iload hx d_L_main_628 1 rfl ?_
  refine jo_icmp_eq (tgt := 635) hx d_L_main_630 (by decide) (fun h1 => ?_) (fun h1 => absurd hth h1)
  refine jo_iload hx d_L_main_635 1 rfl ?_
  refine jo_if_ne (tgt := 652) hx d_L_main_637 (by decide) (fun h2 => ?_) (fun h2 => ?_)
  · skip
    refine jo_goto (tgt := 2417) hx d_L_main_652 (by decide) ?_
    exact JO.lsub [2, 3, 4, 5, 6] rfl K
  · skip
    refine jo_aload_n hx d_L_main_640 rfl 3 rfl ?_
    refine jo_iconst (v := 0) hx d_L_main_641 (by decide) ?_
    refine jo_lald hx rfl d_L_main_642 ?_
    refine jo_iload hx d_L_main_643 0 rfl ?_
    refine jo_i2l hx d_L_main_645 rfl ?_
    refine jo_lcmp hx d_L_main_646 ?_
    refine jo_if_eq (tgt := 652) hx d_L_main_647 (by decide) (fun h4 => ?_) (fun h4 => absurd ((lg_cmp_eq _ _).mpr (hv h2)) h4)
    refine jo_goto (tgt := 2417) hx d_L_main_652 (by decide) ?_
    exact JO.lsub [2, 3, 4, 5, 6] rfl K
theorem lc_light (hg : Gl G ao cL A X sb L ks) (hG : zI G) (hj : 8 * j + 8 ≤ L) {a1 : Int32} (e1 : ks (8 * j + 1) = a1) {a2 : Int32} (e2 : ks (8 * j + 2) = a2) {r : Int32} (hW : WO l G ao cL y_L_light method_9_code 5 [(0, 10, 13, 31), (0, 10, 17, 13)] k1 [.ref (G.1 0), .int a1, .int a2, .ref ao] σ w9 kk σ1 v1) (hk1 : k1 < 1000) (hM : MI l G y_Mo_light prog_14_method_65_code 3 .int k2 [.ref (G.1 111), .int a1, .int a2] σ1 r σ2) (hk2 : k2 < 1000) (hth : σ2 111 0 = kk) (hv : kk = 0 → v1 = r.toInt64) (hr : c9 + 1 ≤ (xR X).cells ∧ n9 + 6 ≤ (xR X).slots) (K : JO l G ao cL A X 8 σ2 v1 (c9 + 1) (n9 + 6) 2417 (zLS G ao sb j) []) : JO l G ao cL A X 8 σ w9 c9 n9 655 (zLS G ao sb j) [] := by
  subst e1
  subst e2
  obtain ⟨hx, hS, hL⟩ := hg
  refine jo_aload_n hx d_L_main_655 rfl 3 rfl ?_
  refine jo_aload_n hx d_L_main_656 rfl 4 rfl ?_
  refine jo_iload hx d_L_main_657 0 rfl ?_
  refine jo_iconst (v := 1) hx d_L_main_659 (by decide) ?_
  refine jo_iadd hx d_L_main_660 ?_
  refine jo_sld hx hS hL (i := 8 * j + 1) (by omega) (nI_pl (8 * j) 1) d_L_main_661 ?_
  refine jo_aload_n hx d_L_main_662 rfl 4 rfl ?_
  refine jo_iload hx d_L_main_663 0 rfl ?_
  refine jo_iconst (v := 2) hx d_L_main_665 (by decide) ?_
  refine jo_iadd hx d_L_main_666 ?_
  refine jo_sld hx hS hL (i := 8 * j + 2) (by omega) (nI_pl (8 * j) 2) d_L_main_667 ?_
  refine jo_aload_n hx d_L_main_668 rfl 1 rfl ?_
  refine jo_callW (n := 4) hx hW t_1014 t_1013 t_1012 t_0 ⟨by decide, by decide, by decide +kernel⟩ (by decide) hk1 rfl rfl (Nat.le_of_ble_eq_true rfl) d_L_main_669 hr ?_
  refine jo_istore hx ([(5, .int kk), (4, .int (nI (8 * j))), (3, .ref ao), (2, .ref (G.1 111)), (1, .ref (G.1 0)), (0, .ref sb)]) d_L_main_672 (by decide) rfl ?_
  refine jo_aload_n hx d_L_main_674 rfl 3 rfl ?_
  refine jo_aload_n hx d_L_main_675 rfl 5 rfl ?_
  refine jo_iload hx d_L_main_676 1 rfl ?_
  refine jo_iconst (v := 1) hx d_L_main_678 (by decide) ?_
  refine jo_iadd hx d_L_main_679 ?_
  refine jo_sld hx hS hL (i := 8 * j + 1) (by omega) (nI_pl (8 * j) 1) d_L_main_680 ?_
  refine jo_aload_n hx d_L_main_681 rfl 5 rfl ?_
  refine jo_iload hx d_L_main_682 1 rfl ?_
  refine jo_iconst (v := 2) hx d_L_main_684 (by decide) ?_
  refine jo_iadd hx d_L_main_685 ?_
  refine jo_sld hx hS hL (i := 8 * j + 2) (by omega) (nI_pl (8 * j) 2) d_L_main_686 ?_
  refine jo_callVi hx hM mo_Mo_light mv_Mo_light t_1793 hk2 rfl (by decide) (sh_111 _ _) rfl rfl (Nat.le_of_ble_eq_true rfl) d_L_main_687 hr ?_
  refine jo_istore hx ([(6, .int r), (5, .int kk), (4, .int (nI (8 * j))), (3, .ref ao), (2, .ref (G.1 111)), (1, .ref (G.1 0)), (0, .ref sb)]) d_L_main_690 (by decide) rfl ?_
  refine jo_aload_n hx d_L_main_692 rfl 4 rfl ?_
  refine jo_callVi hx (c_Mo_thrown hG σ2) mo_Mo_thrown mv_Mo_thrown t_1569 (by decide) rfl (by decide) (sh_111 _ _) rfl rfl (Nat.le_of_ble_eq_true rfl) d_L_main_693 hr ?_
  refine jo_iload hx d_L_main_696 1 rfl ?_
  refine jo_icmp_eq (tgt := 703) hx d_L_main_698 (by decide) (fun h1 => ?_) (fun h1 => absurd hth h1)
  refine jo_iload hx d_L_main_703 1 rfl ?_
  refine jo_if_ne (tgt := 720) hx d_L_main_705 (by decide) (fun h2 => ?_) (fun h2 => ?_)
  · skip
    refine jo_goto (tgt := 2417) hx d_L_main_720 (by decide) ?_
    exact JO.lsub [2, 3, 4, 5, 6] rfl K
  · skip
    refine jo_aload_n hx d_L_main_708 rfl 3 rfl ?_
    refine jo_iconst (v := 0) hx d_L_main_709 (by decide) ?_
    refine jo_lald hx rfl d_L_main_710 ?_
    refine jo_iload hx d_L_main_711 0 rfl ?_
    refine jo_i2l hx d_L_main_713 rfl ?_
    refine jo_lcmp hx d_L_main_714 ?_
    refine jo_if_eq (tgt := 720) hx d_L_main_715 (by decide) (fun h4 => ?_) (fun h4 => absurd ((lg_cmp_eq _ _).mpr (hv h2)) h4)
    refine jo_goto (tgt := 2417) hx d_L_main_720 (by decide) ?_
    exact JO.lsub [2, 3, 4, 5, 6] rfl K
theorem lc_donkey (hg : Gl G ao cL A X sb L ks) (hG : zI G) (hj : 8 * j + 8 ≤ L) {a1 : Int32} (e1 : ks (8 * j + 1) = a1) {a2 : Int32} (e2 : ks (8 * j + 2) = a2) {r : Int32} (hW : WO l G ao cL y_L_donkey method_10_code 5 [(0, 10, 13, 31), (0, 10, 17, 13)] k1 [.ref (G.1 0), .int a1, .int a2, .ref ao] σ w9 kk σ1 v1) (hk1 : k1 < 1000) (hM : MI l G y_Mo_donkey prog_14_method_66_code 3 .int k2 [.ref (G.1 111), .int a1, .int a2] σ1 r σ2) (hk2 : k2 < 1000) (hth : σ2 111 0 = kk) (hv : kk = 0 → v1 = r.toInt64) (hr : c9 + 1 ≤ (xR X).cells ∧ n9 + 6 ≤ (xR X).slots) (K : JO l G ao cL A X 8 σ2 v1 (c9 + 1) (n9 + 6) 2417 (zLS G ao sb j) []) : JO l G ao cL A X 8 σ w9 c9 n9 723 (zLS G ao sb j) [] := by
  subst e1
  subst e2
  obtain ⟨hx, hS, hL⟩ := hg
  refine jo_aload_n hx d_L_main_723 rfl 3 rfl ?_
  refine jo_aload_n hx d_L_main_724 rfl 4 rfl ?_
  refine jo_iload hx d_L_main_725 0 rfl ?_
  refine jo_iconst (v := 1) hx d_L_main_727 (by decide) ?_
  refine jo_iadd hx d_L_main_728 ?_
  refine jo_sld hx hS hL (i := 8 * j + 1) (by omega) (nI_pl (8 * j) 1) d_L_main_729 ?_
  refine jo_aload_n hx d_L_main_730 rfl 4 rfl ?_
  refine jo_iload hx d_L_main_731 0 rfl ?_
  refine jo_iconst (v := 2) hx d_L_main_733 (by decide) ?_
  refine jo_iadd hx d_L_main_734 ?_
  refine jo_sld hx hS hL (i := 8 * j + 2) (by omega) (nI_pl (8 * j) 2) d_L_main_735 ?_
  refine jo_aload_n hx d_L_main_736 rfl 1 rfl ?_
  refine jo_callW (n := 4) hx hW t_1022 t_1021 t_1020 t_0 ⟨by decide, by decide, by decide +kernel⟩ (by decide) hk1 rfl rfl (Nat.le_of_ble_eq_true rfl) d_L_main_737 hr ?_
  refine jo_istore hx ([(5, .int kk), (4, .int (nI (8 * j))), (3, .ref ao), (2, .ref (G.1 111)), (1, .ref (G.1 0)), (0, .ref sb)]) d_L_main_740 (by decide) rfl ?_
  refine jo_aload_n hx d_L_main_742 rfl 3 rfl ?_
  refine jo_aload_n hx d_L_main_743 rfl 5 rfl ?_
  refine jo_iload hx d_L_main_744 1 rfl ?_
  refine jo_iconst (v := 1) hx d_L_main_746 (by decide) ?_
  refine jo_iadd hx d_L_main_747 ?_
  refine jo_sld hx hS hL (i := 8 * j + 1) (by omega) (nI_pl (8 * j) 1) d_L_main_748 ?_
  refine jo_aload_n hx d_L_main_749 rfl 5 rfl ?_
  refine jo_iload hx d_L_main_750 1 rfl ?_
  refine jo_iconst (v := 2) hx d_L_main_752 (by decide) ?_
  refine jo_iadd hx d_L_main_753 ?_
  refine jo_sld hx hS hL (i := 8 * j + 2) (by omega) (nI_pl (8 * j) 2) d_L_main_754 ?_
  refine jo_callVi hx hM mo_Mo_donkey mv_Mo_donkey t_1797 hk2 rfl (by decide) (sh_111 _ _) rfl rfl (Nat.le_of_ble_eq_true rfl) d_L_main_755 hr ?_
  refine jo_istore hx ([(6, .int r), (5, .int kk), (4, .int (nI (8 * j))), (3, .ref ao), (2, .ref (G.1 111)), (1, .ref (G.1 0)), (0, .ref sb)]) d_L_main_758 (by decide) rfl ?_
  refine jo_aload_n hx d_L_main_760 rfl 4 rfl ?_
  refine jo_callVi hx (c_Mo_thrown hG σ2) mo_Mo_thrown mv_Mo_thrown t_1569 (by decide) rfl (by decide) (sh_111 _ _) rfl rfl (Nat.le_of_ble_eq_true rfl) d_L_main_761 hr ?_
  refine jo_iload hx d_L_main_764 1 rfl ?_
  refine jo_icmp_eq (tgt := 771) hx d_L_main_766 (by decide) (fun h1 => ?_) (fun h1 => absurd hth h1)
  refine jo_iload hx d_L_main_771 1 rfl ?_
  refine jo_if_ne (tgt := 788) hx d_L_main_773 (by decide) (fun h2 => ?_) (fun h2 => ?_)
  · skip
    refine jo_goto (tgt := 2417) hx d_L_main_788 (by decide) ?_
    exact JO.lsub [2, 3, 4, 5, 6] rfl K
  · skip
    refine jo_aload_n hx d_L_main_776 rfl 3 rfl ?_
    refine jo_iconst (v := 0) hx d_L_main_777 (by decide) ?_
    refine jo_lald hx rfl d_L_main_778 ?_
    refine jo_iload hx d_L_main_779 0 rfl ?_
    refine jo_i2l hx d_L_main_781 rfl ?_
    refine jo_lcmp hx d_L_main_782 ?_
    refine jo_if_eq (tgt := 788) hx d_L_main_783 (by decide) (fun h4 => ?_) (fun h4 => absurd ((lg_cmp_eq _ _).mpr (hv h2)) h4)
    refine jo_goto (tgt := 2417) hx d_L_main_788 (by decide) ?_
    exact JO.lsub [2, 3, 4, 5, 6] rfl K
theorem lc_ship (hg : Gl G ao cL A X sb L ks) (hG : zI G) (hj : 8 * j + 8 ≤ L) {a1 : Int32} (e1 : ks (8 * j + 1) = a1) {a2 : Int32} (e2 : ks (8 * j + 2) = a2) {r : Int32} (hW : WO l G ao cL y_L_ship method_11_code 5 [(0, 10, 13, 31), (0, 10, 17, 13)] k1 [.ref (G.1 0), .int a1, .int a2, .ref ao] σ w9 kk σ1 v1) (hk1 : k1 < 1000) (hM : MI l G y_Mo_ship prog_14_method_67_code 3 .int k2 [.ref (G.1 111), .int a1, .int a2] σ1 r σ2) (hk2 : k2 < 1000) (hth : σ2 111 0 = kk) (hv : kk = 0 → v1 = r.toInt64) (hr : c9 + 1 ≤ (xR X).cells ∧ n9 + 6 ≤ (xR X).slots) (K : JO l G ao cL A X 8 σ2 v1 (c9 + 1) (n9 + 6) 2417 (zLS G ao sb j) []) : JO l G ao cL A X 8 σ w9 c9 n9 791 (zLS G ao sb j) [] := by
  subst e1
  subst e2
  obtain ⟨hx, hS, hL⟩ := hg
  refine jo_aload_n hx d_L_main_791 rfl 3 rfl ?_
  refine jo_aload_n hx d_L_main_792 rfl 4 rfl ?_
  refine jo_iload hx d_L_main_793 0 rfl ?_
  refine jo_iconst (v := 1) hx d_L_main_795 (by decide) ?_
  refine jo_iadd hx d_L_main_796 ?_
  refine jo_sld hx hS hL (i := 8 * j + 1) (by omega) (nI_pl (8 * j) 1) d_L_main_797 ?_
  refine jo_aload_n hx d_L_main_798 rfl 4 rfl ?_
  refine jo_iload hx d_L_main_799 0 rfl ?_
  refine jo_iconst (v := 2) hx d_L_main_801 (by decide) ?_
  refine jo_iadd hx d_L_main_802 ?_
  refine jo_sld hx hS hL (i := 8 * j + 2) (by omega) (nI_pl (8 * j) 2) d_L_main_803 ?_
  refine jo_aload_n hx d_L_main_804 rfl 1 rfl ?_
  refine jo_callW (n := 4) hx hW t_1029 t_1028 t_1027 t_0 ⟨by decide, by decide, by decide +kernel⟩ (by decide) hk1 rfl rfl (Nat.le_of_ble_eq_true rfl) d_L_main_805 hr ?_
  refine jo_istore hx ([(5, .int kk), (4, .int (nI (8 * j))), (3, .ref ao), (2, .ref (G.1 111)), (1, .ref (G.1 0)), (0, .ref sb)]) d_L_main_808 (by decide) rfl ?_
  refine jo_aload_n hx d_L_main_810 rfl 3 rfl ?_
  refine jo_aload_n hx d_L_main_811 rfl 5 rfl ?_
  refine jo_iload hx d_L_main_812 1 rfl ?_
  refine jo_iconst (v := 1) hx d_L_main_814 (by decide) ?_
  refine jo_iadd hx d_L_main_815 ?_
  refine jo_sld hx hS hL (i := 8 * j + 1) (by omega) (nI_pl (8 * j) 1) d_L_main_816 ?_
  refine jo_aload_n hx d_L_main_817 rfl 5 rfl ?_
  refine jo_iload hx d_L_main_818 1 rfl ?_
  refine jo_iconst (v := 2) hx d_L_main_820 (by decide) ?_
  refine jo_iadd hx d_L_main_821 ?_
  refine jo_sld hx hS hL (i := 8 * j + 2) (by omega) (nI_pl (8 * j) 2) d_L_main_822 ?_
  refine jo_callVi hx hM mo_Mo_ship mv_Mo_ship t_1801 hk2 rfl (by decide) (sh_111 _ _) rfl rfl (Nat.le_of_ble_eq_true rfl) d_L_main_823 hr ?_
  refine jo_istore hx ([(6, .int r), (5, .int kk), (4, .int (nI (8 * j))), (3, .ref ao), (2, .ref (G.1 111)), (1, .ref (G.1 0)), (0, .ref sb)]) d_L_main_826 (by decide) rfl ?_
  refine jo_aload_n hx d_L_main_828 rfl 4 rfl ?_
  refine jo_callVi hx (c_Mo_thrown hG σ2) mo_Mo_thrown mv_Mo_thrown t_1569 (by decide) rfl (by decide) (sh_111 _ _) rfl rfl (Nat.le_of_ble_eq_true rfl) d_L_main_829 hr ?_
  refine jo_iload hx d_L_main_832 1 rfl ?_
  refine jo_icmp_eq (tgt := 839) hx d_L_main_834 (by decide) (fun h1 => ?_) (fun h1 => absurd hth h1)
  refine jo_iload hx d_L_main_839 1 rfl ?_
  refine jo_if_ne (tgt := 856) hx d_L_main_841 (by decide) (fun h2 => ?_) (fun h2 => ?_)
  · skip
    refine jo_goto (tgt := 2417) hx d_L_main_856 (by decide) ?_
    exact JO.lsub [2, 3, 4, 5, 6] rfl K
  · skip
    refine jo_aload_n hx d_L_main_844 rfl 3 rfl ?_
    refine jo_iconst (v := 0) hx d_L_main_845 (by decide) ?_
    refine jo_lald hx rfl d_L_main_846 ?_
    refine jo_iload hx d_L_main_847 0 rfl ?_
    refine jo_i2l hx d_L_main_849 rfl ?_
    refine jo_lcmp hx d_L_main_850 ?_
    refine jo_if_eq (tgt := 856) hx d_L_main_851 (by decide) (fun h4 => ?_) (fun h4 => absurd ((lg_cmp_eq _ _).mpr (hv h2)) h4)
    refine jo_goto (tgt := 2417) hx d_L_main_856 (by decide) ?_
    exact JO.lsub [2, 3, 4, 5, 6] rfl K
theorem lc_seen (hg : Gl G ao cL A X sb L ks) (hG : zI G) (hj : 8 * j + 8 ≤ L) {a1 : Int32} (e1 : ks (8 * j + 1) = a1) {a2 : Int32} (e2 : ks (8 * j + 2) = a2) {r : Int32} (hW : WO l G ao cL y_L_seen method_12_code 5 [(0, 10, 13, 31), (0, 10, 17, 13)] k1 [.ref (G.1 0), .int a1, .int a2, .ref ao] σ w9 kk σ1 v1) (hk1 : k1 < 1000) (hM : MI l G y_Mo_seen prog_14_method_68_code 3 .int k2 [.ref (G.1 111), .int a1, .int a2] σ1 r σ2) (hk2 : k2 < 1000) (hth : σ2 111 0 = kk) (hv : kk = 0 → v1 = r.toInt64) (hr : c9 + 1 ≤ (xR X).cells ∧ n9 + 6 ≤ (xR X).slots) (K : JO l G ao cL A X 8 σ2 v1 (c9 + 1) (n9 + 6) 2417 (zLS G ao sb j) []) : JO l G ao cL A X 8 σ w9 c9 n9 859 (zLS G ao sb j) [] := by
  subst e1
  subst e2
  obtain ⟨hx, hS, hL⟩ := hg
  refine jo_aload_n hx d_L_main_859 rfl 3 rfl ?_
  refine jo_aload_n hx d_L_main_860 rfl 4 rfl ?_
  refine jo_iload hx d_L_main_861 0 rfl ?_
  refine jo_iconst (v := 1) hx d_L_main_863 (by decide) ?_
  refine jo_iadd hx d_L_main_864 ?_
  refine jo_sld hx hS hL (i := 8 * j + 1) (by omega) (nI_pl (8 * j) 1) d_L_main_865 ?_
  refine jo_aload_n hx d_L_main_866 rfl 4 rfl ?_
  refine jo_iload hx d_L_main_867 0 rfl ?_
  refine jo_iconst (v := 2) hx d_L_main_869 (by decide) ?_
  refine jo_iadd hx d_L_main_870 ?_
  refine jo_sld hx hS hL (i := 8 * j + 2) (by omega) (nI_pl (8 * j) 2) d_L_main_871 ?_
  refine jo_aload_n hx d_L_main_872 rfl 1 rfl ?_
  refine jo_callW (n := 4) hx hW t_1041 t_1040 t_1039 t_0 ⟨by decide, by decide, by decide +kernel⟩ (by decide) hk1 rfl rfl (Nat.le_of_ble_eq_true rfl) d_L_main_873 hr ?_
  refine jo_istore hx ([(5, .int kk), (4, .int (nI (8 * j))), (3, .ref ao), (2, .ref (G.1 111)), (1, .ref (G.1 0)), (0, .ref sb)]) d_L_main_876 (by decide) rfl ?_
  refine jo_aload_n hx d_L_main_878 rfl 3 rfl ?_
  refine jo_aload_n hx d_L_main_879 rfl 5 rfl ?_
  refine jo_iload hx d_L_main_880 1 rfl ?_
  refine jo_iconst (v := 1) hx d_L_main_882 (by decide) ?_
  refine jo_iadd hx d_L_main_883 ?_
  refine jo_sld hx hS hL (i := 8 * j + 1) (by omega) (nI_pl (8 * j) 1) d_L_main_884 ?_
  refine jo_aload_n hx d_L_main_885 rfl 5 rfl ?_
  refine jo_iload hx d_L_main_886 1 rfl ?_
  refine jo_iconst (v := 2) hx d_L_main_888 (by decide) ?_
  refine jo_iadd hx d_L_main_889 ?_
  refine jo_sld hx hS hL (i := 8 * j + 2) (by omega) (nI_pl (8 * j) 2) d_L_main_890 ?_
  refine jo_callVi hx hM mo_Mo_seen mv_Mo_seen t_1805 hk2 rfl (by decide) (sh_111 _ _) rfl rfl (Nat.le_of_ble_eq_true rfl) d_L_main_891 hr ?_
  refine jo_istore hx ([(6, .int r), (5, .int kk), (4, .int (nI (8 * j))), (3, .ref ao), (2, .ref (G.1 111)), (1, .ref (G.1 0)), (0, .ref sb)]) d_L_main_894 (by decide) rfl ?_
  refine jo_aload_n hx d_L_main_896 rfl 4 rfl ?_
  refine jo_callVi hx (c_Mo_thrown hG σ2) mo_Mo_thrown mv_Mo_thrown t_1569 (by decide) rfl (by decide) (sh_111 _ _) rfl rfl (Nat.le_of_ble_eq_true rfl) d_L_main_897 hr ?_
  refine jo_iload hx d_L_main_900 1 rfl ?_
  refine jo_icmp_eq (tgt := 907) hx d_L_main_902 (by decide) (fun h1 => ?_) (fun h1 => absurd hth h1)
  refine jo_iload hx d_L_main_907 1 rfl ?_
  refine jo_if_ne (tgt := 924) hx d_L_main_909 (by decide) (fun h2 => ?_) (fun h2 => ?_)
  · skip
    refine jo_goto (tgt := 2417) hx d_L_main_924 (by decide) ?_
    exact JO.lsub [2, 3, 4, 5, 6] rfl K
  · skip
    refine jo_aload_n hx d_L_main_912 rfl 3 rfl ?_
    refine jo_iconst (v := 0) hx d_L_main_913 (by decide) ?_
    refine jo_lald hx rfl d_L_main_914 ?_
    refine jo_iload hx d_L_main_915 0 rfl ?_
    refine jo_i2l hx d_L_main_917 rfl ?_
    refine jo_lcmp hx d_L_main_918 ?_
    refine jo_if_eq (tgt := 924) hx d_L_main_919 (by decide) (fun h4 => ?_) (fun h4 => absurd ((lg_cmp_eq _ _).mpr (hv h2)) h4)
    refine jo_goto (tgt := 2417) hx d_L_main_924 (by decide) ?_
    exact JO.lsub [2, 3, 4, 5, 6] rfl K
theorem lc_would (hg : Gl G ao cL A X sb L ks) (hG : zI G) (hj : 8 * j + 8 ≤ L) {a1 : Int32} (e1 : ks (8 * j + 1) = a1) {a2 : Int32} (e2 : ks (8 * j + 2) = a2) {a3 : Int32} (e3 : ks (8 * j + 3) = a3) {a4 : Int32} (e4 : ks (8 * j + 4) = a4) {a5 : Int32} (e5 : ks (8 * j + 5) = a5) {a6 : Int32} (e6 : ks (8 * j + 6) = a6) {a7 : Int32} (e7 : ks (8 * j + 7) = a7) {r : Int32} (hW : WO l G ao cL y_L_would method_13_code 10 [(0, 27, 30, 31), (0, 27, 34, 13)] k1 [.ref (G.1 0), .int a1, .int a2, .int a3, .int a4, .int a5, .int a6, .int a7, .ref ao] σ w9 kk σ1 v1) (hk1 : k1 < 1000) (hM : MI l G y_Mo_would prog_14_method_69_code 8 .boolean k2 [.ref (G.1 111), .int a1, .int a2, .int a3, .int a4, .int a5, .int a6, .int a7] σ1 r σ2) (hk2 : k2 < 1000) (hth : σ2 111 0 = kk) (hv : kk = 0 → v1 = (if r = 0 then 0 else 1)) (hr : c9 + 1 ≤ (xR X).cells ∧ n9 + 6 ≤ (xR X).slots) (K : JO l G ao cL A X 8 σ2 v1 (c9 + 1) (n9 + 6) 2417 (zLS G ao sb j) []) : JO l G ao cL A X 8 σ w9 c9 n9 927 (zLS G ao sb j) [] := by
  subst e1
  subst e2
  subst e3
  subst e4
  subst e5
  subst e6
  subst e7
  obtain ⟨hx, hS, hL⟩ := hg
  refine jo_aload_n hx d_L_main_927 rfl 3 rfl ?_
  refine jo_aload_n hx d_L_main_928 rfl 4 rfl ?_
  refine jo_iload hx d_L_main_929 0 rfl ?_
  refine jo_iconst (v := 1) hx d_L_main_931 (by decide) ?_
  refine jo_iadd hx d_L_main_932 ?_
  refine jo_sld hx hS hL (i := 8 * j + 1) (by omega) (nI_pl (8 * j) 1) d_L_main_933 ?_
  refine jo_aload_n hx d_L_main_934 rfl 4 rfl ?_
  refine jo_iload hx d_L_main_935 0 rfl ?_
  refine jo_iconst (v := 2) hx d_L_main_937 (by decide) ?_
  refine jo_iadd hx d_L_main_938 ?_
  refine jo_sld hx hS hL (i := 8 * j + 2) (by omega) (nI_pl (8 * j) 2) d_L_main_939 ?_
  refine jo_aload_n hx d_L_main_940 rfl 4 rfl ?_
  refine jo_iload hx d_L_main_941 0 rfl ?_
  refine jo_iconst (v := 3) hx d_L_main_943 (by decide) ?_
  refine jo_iadd hx d_L_main_944 ?_
  refine jo_sld hx hS hL (i := 8 * j + 3) (by omega) (nI_pl (8 * j) 3) d_L_main_945 ?_
  refine jo_aload_n hx d_L_main_946 rfl 4 rfl ?_
  refine jo_iload hx d_L_main_947 0 rfl ?_
  refine jo_iconst (v := 4) hx d_L_main_949 (by decide) ?_
  refine jo_iadd hx d_L_main_950 ?_
  refine jo_sld hx hS hL (i := 8 * j + 4) (by omega) (nI_pl (8 * j) 4) d_L_main_951 ?_
  refine jo_aload_n hx d_L_main_952 rfl 4 rfl ?_
  refine jo_iload hx d_L_main_953 0 rfl ?_
  refine jo_iconst (v := 5) hx d_L_main_955 (by decide) ?_
  refine jo_iadd hx d_L_main_956 ?_
  refine jo_sld hx hS hL (i := 8 * j + 5) (by omega) (nI_pl (8 * j) 5) d_L_main_957 ?_
  refine jo_aload_n hx d_L_main_958 rfl 4 rfl ?_
  refine jo_iload hx d_L_main_959 0 rfl ?_
  refine jo_bipush (v := 6) hx d_L_main_961 (by decide) ?_
  refine jo_iadd hx d_L_main_963 ?_
  refine jo_sld hx hS hL (i := 8 * j + 6) (by omega) (nI_pl (8 * j) 6) d_L_main_964 ?_
  refine jo_aload_n hx d_L_main_965 rfl 4 rfl ?_
  refine jo_iload hx d_L_main_966 0 rfl ?_
  refine jo_bipush (v := 7) hx d_L_main_968 (by decide) ?_
  refine jo_iadd hx d_L_main_970 ?_
  refine jo_sld hx hS hL (i := 8 * j + 7) (by omega) (nI_pl (8 * j) 7) d_L_main_971 ?_
  refine jo_aload_n hx d_L_main_972 rfl 1 rfl ?_
  refine jo_callW (n := 9) hx hW t_1055 t_1054 t_1053 t_0 ⟨by decide, by decide, by decide +kernel⟩ (by decide) hk1 rfl rfl (Nat.le_of_ble_eq_true rfl) d_L_main_973 hr ?_
  refine jo_istore hx ([(5, .int kk), (4, .int (nI (8 * j))), (3, .ref ao), (2, .ref (G.1 111)), (1, .ref (G.1 0)), (0, .ref sb)]) d_L_main_976 (by decide) rfl ?_
  refine jo_aload_n hx d_L_main_978 rfl 3 rfl ?_
  refine jo_aload_n hx d_L_main_979 rfl 5 rfl ?_
  refine jo_iload hx d_L_main_980 1 rfl ?_
  refine jo_iconst (v := 1) hx d_L_main_982 (by decide) ?_
  refine jo_iadd hx d_L_main_983 ?_
  refine jo_sld hx hS hL (i := 8 * j + 1) (by omega) (nI_pl (8 * j) 1) d_L_main_984 ?_
  refine jo_aload_n hx d_L_main_985 rfl 5 rfl ?_
  refine jo_iload hx d_L_main_986 1 rfl ?_
  refine jo_iconst (v := 2) hx d_L_main_988 (by decide) ?_
  refine jo_iadd hx d_L_main_989 ?_
  refine jo_sld hx hS hL (i := 8 * j + 2) (by omega) (nI_pl (8 * j) 2) d_L_main_990 ?_
  refine jo_aload_n hx d_L_main_991 rfl 5 rfl ?_
  refine jo_iload hx d_L_main_992 1 rfl ?_
  refine jo_iconst (v := 3) hx d_L_main_994 (by decide) ?_
  refine jo_iadd hx d_L_main_995 ?_
  refine jo_sld hx hS hL (i := 8 * j + 3) (by omega) (nI_pl (8 * j) 3) d_L_main_996 ?_
  refine jo_aload_n hx d_L_main_997 rfl 5 rfl ?_
  refine jo_iload hx d_L_main_998 1 rfl ?_
  refine jo_iconst (v := 4) hx d_L_main_1000 (by decide) ?_
  refine jo_iadd hx d_L_main_1001 ?_
  refine jo_sld hx hS hL (i := 8 * j + 4) (by omega) (nI_pl (8 * j) 4) d_L_main_1002 ?_
  refine jo_aload_n hx d_L_main_1003 rfl 5 rfl ?_
  refine jo_iload hx d_L_main_1004 1 rfl ?_
  refine jo_iconst (v := 5) hx d_L_main_1006 (by decide) ?_
  refine jo_iadd hx d_L_main_1007 ?_
  refine jo_sld hx hS hL (i := 8 * j + 5) (by omega) (nI_pl (8 * j) 5) d_L_main_1008 ?_
  refine jo_aload_n hx d_L_main_1009 rfl 5 rfl ?_
  refine jo_iload hx d_L_main_1010 1 rfl ?_
  refine jo_bipush (v := 6) hx d_L_main_1012 (by decide) ?_
  refine jo_iadd hx d_L_main_1014 ?_
  refine jo_sld hx hS hL (i := 8 * j + 6) (by omega) (nI_pl (8 * j) 6) d_L_main_1015 ?_
  refine jo_aload_n hx d_L_main_1016 rfl 5 rfl ?_
  refine jo_iload hx d_L_main_1017 1 rfl ?_
  refine jo_bipush (v := 7) hx d_L_main_1019 (by decide) ?_
  refine jo_iadd hx d_L_main_1021 ?_
  refine jo_sld hx hS hL (i := 8 * j + 7) (by omega) (nI_pl (8 * j) 7) d_L_main_1022 ?_
  refine jo_callVi hx hM mo_Mo_would mv_Mo_would t_1809 hk2 rfl (by decide) (sh_111 _ _) rfl rfl (Nat.le_of_ble_eq_true rfl) d_L_main_1023 hr ?_
  refine jo_istore hx ([(6, .int r), (5, .int kk), (4, .int (nI (8 * j))), (3, .ref ao), (2, .ref (G.1 111)), (1, .ref (G.1 0)), (0, .ref sb)]) d_L_main_1026 (by decide) rfl ?_
  refine jo_aload_n hx d_L_main_1028 rfl 4 rfl ?_
  refine jo_callVi hx (c_Mo_thrown hG σ2) mo_Mo_thrown mv_Mo_thrown t_1569 (by decide) rfl (by decide) (sh_111 _ _) rfl rfl (Nat.le_of_ble_eq_true rfl) d_L_main_1029 hr ?_
  refine jo_iload hx d_L_main_1032 1 rfl ?_
  refine jo_icmp_eq (tgt := 1039) hx d_L_main_1034 (by decide) (fun h1 => ?_) (fun h1 => absurd hth h1)
  refine jo_iload hx d_L_main_1039 1 rfl ?_
  refine jo_if_ne (tgt := 1063) hx d_L_main_1041 (by decide) (fun h2 => ?_) (fun h2 => ?_)
  · skip
    refine jo_goto (tgt := 2417) hx d_L_main_1063 (by decide) ?_
    exact JO.lsub [2, 3, 4, 5, 6] rfl K
  · skip
    refine jo_aload_n hx d_L_main_1044 rfl 3 rfl ?_
    refine jo_iconst (v := 0) hx d_L_main_1045 (by decide) ?_
    refine jo_lald hx rfl d_L_main_1046 ?_
    refine jo_iload hx d_L_main_1047 0 rfl ?_
    refine jo_if_eq (tgt := 1056) hx d_L_main_1049 (by decide) (fun h3 => ?_) (fun h3 => ?_)
    · skip
      refine jo_lconst (v := 0) hx d_L_main_1056 (by decide) ?_
      refine jo_lcmp hx d_L_main_1057 ?_
      refine jo_if_eq (tgt := 1063) hx d_L_main_1058 (by decide) (fun h4 => ?_) (fun h4 => absurd ((lg_cmp_eq _ _).mpr (by rw [hv h2, if_pos h3])) h4)
      refine jo_goto (tgt := 2417) hx d_L_main_1063 (by decide) ?_
      exact JO.lsub [2, 3, 4, 5, 6] rfl K
    · skip
      refine jo_lconst (v := 1) hx d_L_main_1052 (by decide) ?_
      refine jo_goto (tgt := 1057) hx d_L_main_1053 (by decide) ?_
      refine jo_lcmp hx d_L_main_1057 ?_
      refine jo_if_eq (tgt := 1063) hx d_L_main_1058 (by decide) (fun h4 => ?_) (fun h4 => absurd ((lg_cmp_eq _ _).mpr (by rw [hv h2, if_neg h3])) h4)
      refine jo_goto (tgt := 2417) hx d_L_main_1063 (by decide) ?_
      exact JO.lsub [2, 3, 4, 5, 6] rfl K
theorem lc_tried (hg : Gl G ao cL A X sb L ks) (hG : zI G) (hj : 8 * j + 8 ≤ L) {a1 : Int32} (e1 : ks (8 * j + 1) = a1) {a2 : Int32} (e2 : ks (8 * j + 2) = a2) {r : Int32} (hW : WO l G ao cL y_L_tried method_14_code 5 [(0, 10, 13, 31), (0, 10, 17, 13)] k1 [.ref (G.1 0), .int a1, .int a2, .ref ao] σ w9 kk σ1 v1) (hk1 : k1 < 1000) (hM : MI l G y_Mo_tried prog_14_method_70_code 3 .int k2 [.ref (G.1 111), .int a1, .int a2] σ1 r σ2) (hk2 : k2 < 1000) (hth : σ2 111 0 = kk) (hv : kk = 0 → v1 = r.toInt64) (hr : c9 + 1 ≤ (xR X).cells ∧ n9 + 6 ≤ (xR X).slots) (K : JO l G ao cL A X 8 σ2 v1 (c9 + 1) (n9 + 6) 2417 (zLS G ao sb j) []) : JO l G ao cL A X 8 σ w9 c9 n9 1066 (zLS G ao sb j) [] := by
  subst e1
  subst e2
  obtain ⟨hx, hS, hL⟩ := hg
  refine jo_aload_n hx d_L_main_1066 rfl 3 rfl ?_
  refine jo_aload_n hx d_L_main_1067 rfl 4 rfl ?_
  refine jo_iload hx d_L_main_1068 0 rfl ?_
  refine jo_iconst (v := 1) hx d_L_main_1070 (by decide) ?_
  refine jo_iadd hx d_L_main_1071 ?_
  refine jo_sld hx hS hL (i := 8 * j + 1) (by omega) (nI_pl (8 * j) 1) d_L_main_1072 ?_
  refine jo_aload_n hx d_L_main_1073 rfl 4 rfl ?_
  refine jo_iload hx d_L_main_1074 0 rfl ?_
  refine jo_iconst (v := 2) hx d_L_main_1076 (by decide) ?_
  refine jo_iadd hx d_L_main_1077 ?_
  refine jo_sld hx hS hL (i := 8 * j + 2) (by omega) (nI_pl (8 * j) 2) d_L_main_1078 ?_
  refine jo_aload_n hx d_L_main_1079 rfl 1 rfl ?_
  refine jo_callW (n := 4) hx hW t_1065 t_1064 t_1063 t_0 ⟨by decide, by decide, by decide +kernel⟩ (by decide) hk1 rfl rfl (Nat.le_of_ble_eq_true rfl) d_L_main_1080 hr ?_
  refine jo_istore hx ([(5, .int kk), (4, .int (nI (8 * j))), (3, .ref ao), (2, .ref (G.1 111)), (1, .ref (G.1 0)), (0, .ref sb)]) d_L_main_1083 (by decide) rfl ?_
  refine jo_aload_n hx d_L_main_1085 rfl 3 rfl ?_
  refine jo_aload_n hx d_L_main_1086 rfl 5 rfl ?_
  refine jo_iload hx d_L_main_1087 1 rfl ?_
  refine jo_iconst (v := 1) hx d_L_main_1089 (by decide) ?_
  refine jo_iadd hx d_L_main_1090 ?_
  refine jo_sld hx hS hL (i := 8 * j + 1) (by omega) (nI_pl (8 * j) 1) d_L_main_1091 ?_
  refine jo_aload_n hx d_L_main_1092 rfl 5 rfl ?_
  refine jo_iload hx d_L_main_1093 1 rfl ?_
  refine jo_iconst (v := 2) hx d_L_main_1095 (by decide) ?_
  refine jo_iadd hx d_L_main_1096 ?_
  refine jo_sld hx hS hL (i := 8 * j + 2) (by omega) (nI_pl (8 * j) 2) d_L_main_1097 ?_
  refine jo_callVi hx hM mo_Mo_tried mv_Mo_tried t_1813 hk2 rfl (by decide) (sh_111 _ _) rfl rfl (Nat.le_of_ble_eq_true rfl) d_L_main_1098 hr ?_
  refine jo_istore hx ([(6, .int r), (5, .int kk), (4, .int (nI (8 * j))), (3, .ref ao), (2, .ref (G.1 111)), (1, .ref (G.1 0)), (0, .ref sb)]) d_L_main_1101 (by decide) rfl ?_
  refine jo_aload_n hx d_L_main_1103 rfl 4 rfl ?_
  refine jo_callVi hx (c_Mo_thrown hG σ2) mo_Mo_thrown mv_Mo_thrown t_1569 (by decide) rfl (by decide) (sh_111 _ _) rfl rfl (Nat.le_of_ble_eq_true rfl) d_L_main_1104 hr ?_
  refine jo_iload hx d_L_main_1107 1 rfl ?_
  refine jo_icmp_eq (tgt := 1114) hx d_L_main_1109 (by decide) (fun h1 => ?_) (fun h1 => absurd hth h1)
  refine jo_iload hx d_L_main_1114 1 rfl ?_
  refine jo_if_ne (tgt := 1131) hx d_L_main_1116 (by decide) (fun h2 => ?_) (fun h2 => ?_)
  · skip
    refine jo_goto (tgt := 2417) hx d_L_main_1131 (by decide) ?_
    exact JO.lsub [2, 3, 4, 5, 6] rfl K
  · skip
    refine jo_aload_n hx d_L_main_1119 rfl 3 rfl ?_
    refine jo_iconst (v := 0) hx d_L_main_1120 (by decide) ?_
    refine jo_lald hx rfl d_L_main_1121 ?_
    refine jo_iload hx d_L_main_1122 0 rfl ?_
    refine jo_i2l hx d_L_main_1124 rfl ?_
    refine jo_lcmp hx d_L_main_1125 ?_
    refine jo_if_eq (tgt := 1131) hx d_L_main_1126 (by decide) (fun h4 => ?_) (fun h4 => absurd ((lg_cmp_eq _ _).mpr (hv h2)) h4)
    refine jo_goto (tgt := 2417) hx d_L_main_1131 (by decide) ?_
    exact JO.lsub [2, 3, 4, 5, 6] rfl K
theorem lc_safe (hg : Gl G ao cL A X sb L ks) (hj : 8 * j + 8 ≤ L) {r : Int32} (hC : MI l G y_DL_safe prog_1_method_17_code 3 .int k1 [.ref (G.1 0)] σ r σ1) (hk1 : k1 < 1000) (hM : MI l G y_Mo_safe prog_14_method_72_code 1 .int k2 [.ref (G.1 111)] σ1 r σ2) (hk2 : k2 < 1000) (hr : c9 ≤ (xR X).cells ∧ n9 ≤ (xR X).slots) (K : JO l G ao cL A X 8 σ2 w9 c9 n9 2417 (zLS G ao sb j) []) : JO l G ao cL A X 8 σ w9 c9 n9 1134 (zLS G ao sb j) [] := by
  obtain ⟨hx, hS, hL⟩ := hg
  refine jo_aload_n hx d_L_main_1134 rfl 3 rfl ?_
  refine jo_callVi hx hC mo_DL_safe mv_DL_safe t_420 hk1 rfl (by decide) (sh_0 _ _) rfl rfl (Nat.le_of_ble_eq_true rfl) d_L_main_1135 hr ?_
  refine jo_aload_n hx d_L_main_1138 rfl 2 rfl ?_
  refine jo_callVi hx hM mo_Mo_safe mv_Mo_safe t_1821 hk2 rfl (by decide) (sh_111 _ _) rfl rfl (Nat.le_of_ble_eq_true rfl) d_L_main_1139 hr ?_
  exact jo_icmp_eq (tgt := 2417) hx d_L_main_1142 (by decide) (fun _ => K) (fun h1 => absurd rfl h1)
theorem lc_put (hg : Gl G ao cL A X sb L ks) (hG : zI G) (hj : 8 * j + 8 ≤ L) {a1 : Int32} (e1 : ks (8 * j + 1) = a1) {a2 : Int32} (e2 : ks (8 * j + 2) = a2) {r : Int32} (hW : WO l G ao cL y_L_put method_15_code 5 [(0, 10, 13, 13)] k1 [.ref (G.1 0), .int a1, .int a2, .ref ao] σ w9 kk σ1 v1) (hk1 : k1 < 1000) (hM : MI l G y_Mo_put prog_14_method_74_code 10 .int k2 [.ref (G.1 111), .int a1, .int a2] σ1 r σ2) (hk2 : k2 < 1000) (hth : σ2 111 0 = kk) (hv : kk = 0 → v1 = r.toInt64) (hr : c9 + 1 ≤ (xR X).cells ∧ n9 + 6 ≤ (xR X).slots) (K : JO l G ao cL A X 8 σ2 v1 (c9 + 1) (n9 + 6) 2417 (zLS G ao sb j) []) : JO l G ao cL A X 8 σ w9 c9 n9 1147 (zLS G ao sb j) [] := by
  subst e1
  subst e2
  obtain ⟨hx, hS, hL⟩ := hg
  refine jo_aload_n hx d_L_main_1147 rfl 3 rfl ?_
  refine jo_aload_n hx d_L_main_1148 rfl 4 rfl ?_
  refine jo_iload hx d_L_main_1149 0 rfl ?_
  refine jo_iconst (v := 1) hx d_L_main_1151 (by decide) ?_
  refine jo_iadd hx d_L_main_1152 ?_
  refine jo_sld hx hS hL (i := 8 * j + 1) (by omega) (nI_pl (8 * j) 1) d_L_main_1153 ?_
  refine jo_aload_n hx d_L_main_1154 rfl 4 rfl ?_
  refine jo_iload hx d_L_main_1155 0 rfl ?_
  refine jo_iconst (v := 2) hx d_L_main_1157 (by decide) ?_
  refine jo_iadd hx d_L_main_1158 ?_
  refine jo_sld hx hS hL (i := 8 * j + 2) (by omega) (nI_pl (8 * j) 2) d_L_main_1159 ?_
  refine jo_aload_n hx d_L_main_1160 rfl 1 rfl ?_
  refine jo_callW (n := 4) hx hW t_1085 t_1084 t_1083 t_0 ⟨by decide, by decide, by decide +kernel⟩ (by decide) hk1 rfl rfl (Nat.le_of_ble_eq_true rfl) d_L_main_1161 hr ?_
  refine jo_istore hx ([(5, .int kk), (4, .int (nI (8 * j))), (3, .ref ao), (2, .ref (G.1 111)), (1, .ref (G.1 0)), (0, .ref sb)]) d_L_main_1164 (by decide) rfl ?_
  refine jo_aload_n hx d_L_main_1166 rfl 3 rfl ?_
  refine jo_aload_n hx d_L_main_1167 rfl 5 rfl ?_
  refine jo_iload hx d_L_main_1168 1 rfl ?_
  refine jo_iconst (v := 1) hx d_L_main_1170 (by decide) ?_
  refine jo_iadd hx d_L_main_1171 ?_
  refine jo_sld hx hS hL (i := 8 * j + 1) (by omega) (nI_pl (8 * j) 1) d_L_main_1172 ?_
  refine jo_aload_n hx d_L_main_1173 rfl 5 rfl ?_
  refine jo_iload hx d_L_main_1174 1 rfl ?_
  refine jo_iconst (v := 2) hx d_L_main_1176 (by decide) ?_
  refine jo_iadd hx d_L_main_1177 ?_
  refine jo_sld hx hS hL (i := 8 * j + 2) (by omega) (nI_pl (8 * j) 2) d_L_main_1178 ?_
  refine jo_callVi hx hM mo_Mo_put mv_Mo_put t_1829 hk2 rfl (by decide) (sh_111 _ _) rfl rfl (Nat.le_of_ble_eq_true rfl) d_L_main_1179 hr ?_
  refine jo_istore hx ([(6, .int r), (5, .int kk), (4, .int (nI (8 * j))), (3, .ref ao), (2, .ref (G.1 111)), (1, .ref (G.1 0)), (0, .ref sb)]) d_L_main_1182 (by decide) rfl ?_
  refine jo_aload_n hx d_L_main_1184 rfl 4 rfl ?_
  refine jo_callVi hx (c_Mo_thrown hG σ2) mo_Mo_thrown mv_Mo_thrown t_1569 (by decide) rfl (by decide) (sh_111 _ _) rfl rfl (Nat.le_of_ble_eq_true rfl) d_L_main_1185 hr ?_
  refine jo_iload hx d_L_main_1188 1 rfl ?_
  refine jo_icmp_eq (tgt := 1195) hx d_L_main_1190 (by decide) (fun h1 => ?_) (fun h1 => absurd hth h1)
  refine jo_iload hx d_L_main_1195 1 rfl ?_
  refine jo_if_ne (tgt := 1212) hx d_L_main_1197 (by decide) (fun h2 => ?_) (fun h2 => ?_)
  · skip
    refine jo_goto (tgt := 2417) hx d_L_main_1212 (by decide) ?_
    exact JO.lsub [2, 3, 4, 5, 6] rfl K
  · skip
    refine jo_aload_n hx d_L_main_1200 rfl 3 rfl ?_
    refine jo_iconst (v := 0) hx d_L_main_1201 (by decide) ?_
    refine jo_lald hx rfl d_L_main_1202 ?_
    refine jo_iload hx d_L_main_1203 0 rfl ?_
    refine jo_i2l hx d_L_main_1205 rfl ?_
    refine jo_lcmp hx d_L_main_1206 ?_
    refine jo_if_eq (tgt := 1212) hx d_L_main_1207 (by decide) (fun h4 => ?_) (fun h4 => absurd ((lg_cmp_eq _ _).mpr (hv h2)) h4)
    refine jo_goto (tgt := 2417) hx d_L_main_1212 (by decide) ?_
    exact JO.lsub [2, 3, 4, 5, 6] rfl K
theorem lc_save (hg : Gl G ao cL A X sb L ks) (hG : zI G) (hj : 8 * j + 8 ≤ L) {a1 : Int32} (e1 : ks (8 * j + 1) = a1) {r : Int32} (hW : WO l G ao cL y_L_save method_16_code 4 [(0, 9, 12, 13)] k1 [.ref (G.1 0), .int a1, .ref ao] σ w9 kk σ1 v1) (hk1 : k1 < 1000) (hM : MI l G y_Mo_save prog_14_method_76_code 8 .int k2 [.ref (G.1 111), .int a1] σ1 r σ2) (hk2 : k2 < 1000) (hth : σ2 111 0 = kk) (hv : kk = 0 → v1 = r.toInt64) (hr : c9 + 1 ≤ (xR X).cells ∧ n9 + 6 ≤ (xR X).slots) (K : JO l G ao cL A X 8 σ2 v1 (c9 + 1) (n9 + 6) 2417 (zLS G ao sb j) []) : JO l G ao cL A X 8 σ w9 c9 n9 1215 (zLS G ao sb j) [] := by
  subst e1
  obtain ⟨hx, hS, hL⟩ := hg
  refine jo_aload_n hx d_L_main_1215 rfl 3 rfl ?_
  refine jo_aload_n hx d_L_main_1216 rfl 4 rfl ?_
  refine jo_iload hx d_L_main_1217 0 rfl ?_
  refine jo_iconst (v := 1) hx d_L_main_1219 (by decide) ?_
  refine jo_iadd hx d_L_main_1220 ?_
  refine jo_sld hx hS hL (i := 8 * j + 1) (by omega) (nI_pl (8 * j) 1) d_L_main_1221 ?_
  refine jo_aload_n hx d_L_main_1222 rfl 1 rfl ?_
  refine jo_callW (n := 3) hx hW t_1143 t_1142 t_1141 t_0 ⟨by decide, by decide, by decide +kernel⟩ (by decide) hk1 rfl rfl (Nat.le_of_ble_eq_true rfl) d_L_main_1223 hr ?_
  refine jo_istore hx ([(5, .int kk), (4, .int (nI (8 * j))), (3, .ref ao), (2, .ref (G.1 111)), (1, .ref (G.1 0)), (0, .ref sb)]) d_L_main_1226 (by decide) rfl ?_
  refine jo_aload_n hx d_L_main_1228 rfl 3 rfl ?_
  refine jo_aload_n hx d_L_main_1229 rfl 5 rfl ?_
  refine jo_iload hx d_L_main_1230 1 rfl ?_
  refine jo_iconst (v := 1) hx d_L_main_1232 (by decide) ?_
  refine jo_iadd hx d_L_main_1233 ?_
  refine jo_sld hx hS hL (i := 8 * j + 1) (by omega) (nI_pl (8 * j) 1) d_L_main_1234 ?_
  refine jo_callVi hx hM mo_Mo_save mv_Mo_save t_1837 hk2 rfl (by decide) (sh_111 _ _) rfl rfl (Nat.le_of_ble_eq_true rfl) d_L_main_1235 hr ?_
  refine jo_istore hx ([(6, .int r), (5, .int kk), (4, .int (nI (8 * j))), (3, .ref ao), (2, .ref (G.1 111)), (1, .ref (G.1 0)), (0, .ref sb)]) d_L_main_1238 (by decide) rfl ?_
  refine jo_aload_n hx d_L_main_1240 rfl 4 rfl ?_
  refine jo_callVi hx (c_Mo_thrown hG σ2) mo_Mo_thrown mv_Mo_thrown t_1569 (by decide) rfl (by decide) (sh_111 _ _) rfl rfl (Nat.le_of_ble_eq_true rfl) d_L_main_1241 hr ?_
  refine jo_iload hx d_L_main_1244 1 rfl ?_
  refine jo_icmp_eq (tgt := 1251) hx d_L_main_1246 (by decide) (fun h1 => ?_) (fun h1 => absurd hth h1)
  refine jo_iload hx d_L_main_1251 1 rfl ?_
  refine jo_if_ne (tgt := 1268) hx d_L_main_1253 (by decide) (fun h2 => ?_) (fun h2 => ?_)
  · skip
    refine jo_goto (tgt := 2417) hx d_L_main_1268 (by decide) ?_
    exact JO.lsub [2, 3, 4, 5, 6] rfl K
  · skip
    refine jo_aload_n hx d_L_main_1256 rfl 3 rfl ?_
    refine jo_iconst (v := 0) hx d_L_main_1257 (by decide) ?_
    refine jo_lald hx rfl d_L_main_1258 ?_
    refine jo_iload hx d_L_main_1259 0 rfl ?_
    refine jo_i2l hx d_L_main_1261 rfl ?_
    refine jo_lcmp hx d_L_main_1262 ?_
    refine jo_if_eq (tgt := 1268) hx d_L_main_1263 (by decide) (fun h4 => ?_) (fun h4 => absurd ((lg_cmp_eq _ _).mpr (hv h2)) h4)
    refine jo_goto (tgt := 2417) hx d_L_main_1268 (by decide) ?_
    exact JO.lsub [2, 3, 4, 5, 6] rfl K
theorem lc_fits (hg : Gl G ao cL A X sb L ks) (hG : zI G) (hj : 8 * j + 8 ≤ L) {a1 : Int32} (e1 : ks (8 * j + 1) = a1) {r : Int32} (hW : WO l G ao cL y_L_fits method_17_code 4 [(0, 9, 12, 13)] k1 [.ref (G.1 0), .int a1, .ref ao] σ w9 kk σ1 v1) (hk1 : k1 < 1000) (hM : MI l G y_Mo_fits prog_14_method_78_code 6 .int k2 [.ref (G.1 111), .int a1] σ1 r σ2) (hk2 : k2 < 1000) (hth : σ2 111 0 = kk) (hv : kk = 0 → v1 = r.toInt64) (hr : c9 + 1 ≤ (xR X).cells ∧ n9 + 6 ≤ (xR X).slots) (K : JO l G ao cL A X 8 σ2 v1 (c9 + 1) (n9 + 6) 2417 (zLS G ao sb j) []) : JO l G ao cL A X 8 σ w9 c9 n9 1271 (zLS G ao sb j) [] := by
  subst e1
  obtain ⟨hx, hS, hL⟩ := hg
  refine jo_aload_n hx d_L_main_1271 rfl 3 rfl ?_
  refine jo_aload_n hx d_L_main_1272 rfl 4 rfl ?_
  refine jo_iload hx d_L_main_1273 0 rfl ?_
  refine jo_iconst (v := 1) hx d_L_main_1275 (by decide) ?_
  refine jo_iadd hx d_L_main_1276 ?_
  refine jo_sld hx hS hL (i := 8 * j + 1) (by omega) (nI_pl (8 * j) 1) d_L_main_1277 ?_
  refine jo_aload_n hx d_L_main_1278 rfl 1 rfl ?_
  refine jo_callW (n := 3) hx hW t_1173 t_1172 t_1171 t_0 ⟨by decide, by decide, by decide +kernel⟩ (by decide) hk1 rfl rfl (Nat.le_of_ble_eq_true rfl) d_L_main_1279 hr ?_
  refine jo_istore hx ([(5, .int kk), (4, .int (nI (8 * j))), (3, .ref ao), (2, .ref (G.1 111)), (1, .ref (G.1 0)), (0, .ref sb)]) d_L_main_1282 (by decide) rfl ?_
  refine jo_aload_n hx d_L_main_1284 rfl 3 rfl ?_
  refine jo_aload_n hx d_L_main_1285 rfl 5 rfl ?_
  refine jo_iload hx d_L_main_1286 1 rfl ?_
  refine jo_iconst (v := 1) hx d_L_main_1288 (by decide) ?_
  refine jo_iadd hx d_L_main_1289 ?_
  refine jo_sld hx hS hL (i := 8 * j + 1) (by omega) (nI_pl (8 * j) 1) d_L_main_1290 ?_
  refine jo_callVi hx hM mo_Mo_fits mv_Mo_fits t_1844 hk2 rfl (by decide) (sh_111 _ _) rfl rfl (Nat.le_of_ble_eq_true rfl) d_L_main_1291 hr ?_
  refine jo_istore hx ([(6, .int r), (5, .int kk), (4, .int (nI (8 * j))), (3, .ref ao), (2, .ref (G.1 111)), (1, .ref (G.1 0)), (0, .ref sb)]) d_L_main_1294 (by decide) rfl ?_
  refine jo_aload_n hx d_L_main_1296 rfl 4 rfl ?_
  refine jo_callVi hx (c_Mo_thrown hG σ2) mo_Mo_thrown mv_Mo_thrown t_1569 (by decide) rfl (by decide) (sh_111 _ _) rfl rfl (Nat.le_of_ble_eq_true rfl) d_L_main_1297 hr ?_
  refine jo_iload hx d_L_main_1300 1 rfl ?_
  refine jo_icmp_eq (tgt := 1307) hx d_L_main_1302 (by decide) (fun h1 => ?_) (fun h1 => absurd hth h1)
  refine jo_iload hx d_L_main_1307 1 rfl ?_
  refine jo_if_ne (tgt := 1324) hx d_L_main_1309 (by decide) (fun h2 => ?_) (fun h2 => ?_)
  · skip
    refine jo_goto (tgt := 2417) hx d_L_main_1324 (by decide) ?_
    exact JO.lsub [2, 3, 4, 5, 6] rfl K
  · skip
    refine jo_aload_n hx d_L_main_1312 rfl 3 rfl ?_
    refine jo_iconst (v := 0) hx d_L_main_1313 (by decide) ?_
    refine jo_lald hx rfl d_L_main_1314 ?_
    refine jo_iload hx d_L_main_1315 0 rfl ?_
    refine jo_i2l hx d_L_main_1317 rfl ?_
    refine jo_lcmp hx d_L_main_1318 ?_
    refine jo_if_eq (tgt := 1324) hx d_L_main_1319 (by decide) (fun h4 => ?_) (fun h4 => absurd ((lg_cmp_eq _ _).mpr (hv h2)) h4)
    refine jo_goto (tgt := 2417) hx d_L_main_1324 (by decide) ?_
    exact JO.lsub [2, 3, 4, 5, 6] rfl K
theorem lc_look (hg : Gl G ao cL A X sb L ks) (hG : zI G) (hj : 8 * j + 8 ≤ L) {a1 : Int32} (e1 : ks (8 * j + 1) = a1) {r : Int32} (hW : WO l G ao cL y_L_look method_18_code 4 [(0, 9, 12, 13)] k1 [.ref (G.1 0), .int a1, .ref ao] σ w9 kk σ1 v1) (hk1 : k1 < 1000) (hM : MI l G y_Mo_look prog_14_method_81_code 6 .int k2 [.ref (G.1 111), .int a1] σ1 r σ2) (hk2 : k2 < 1000) (hth : σ2 111 0 = kk) (hv : kk = 0 → v1 = r.toInt64) (hr : c9 + 1 ≤ (xR X).cells ∧ n9 + 6 ≤ (xR X).slots) (K : JO l G ao cL A X 8 σ2 v1 (c9 + 1) (n9 + 6) 2417 (zLS G ao sb j) []) : JO l G ao cL A X 8 σ w9 c9 n9 1327 (zLS G ao sb j) [] := by
  subst e1
  obtain ⟨hx, hS, hL⟩ := hg
  refine jo_aload_n hx d_L_main_1327 rfl 3 rfl ?_
  refine jo_aload_n hx d_L_main_1328 rfl 4 rfl ?_
  refine jo_iload hx d_L_main_1329 0 rfl ?_
  refine jo_iconst (v := 1) hx d_L_main_1331 (by decide) ?_
  refine jo_iadd hx d_L_main_1332 ?_
  refine jo_sld hx hS hL (i := 8 * j + 1) (by omega) (nI_pl (8 * j) 1) d_L_main_1333 ?_
  refine jo_aload_n hx d_L_main_1334 rfl 1 rfl ?_
  refine jo_callW (n := 3) hx hW t_1193 t_1192 t_1191 t_0 ⟨by decide, by decide, by decide +kernel⟩ (by decide) hk1 rfl rfl (Nat.le_of_ble_eq_true rfl) d_L_main_1335 hr ?_
  refine jo_istore hx ([(5, .int kk), (4, .int (nI (8 * j))), (3, .ref ao), (2, .ref (G.1 111)), (1, .ref (G.1 0)), (0, .ref sb)]) d_L_main_1338 (by decide) rfl ?_
  refine jo_aload_n hx d_L_main_1340 rfl 3 rfl ?_
  refine jo_aload_n hx d_L_main_1341 rfl 5 rfl ?_
  refine jo_iload hx d_L_main_1342 1 rfl ?_
  refine jo_iconst (v := 1) hx d_L_main_1344 (by decide) ?_
  refine jo_iadd hx d_L_main_1345 ?_
  refine jo_sld hx hS hL (i := 8 * j + 1) (by omega) (nI_pl (8 * j) 1) d_L_main_1346 ?_
  refine jo_callVi hx hM mo_Mo_look mv_Mo_look t_1852 hk2 rfl (by decide) (sh_111 _ _) rfl rfl (Nat.le_of_ble_eq_true rfl) d_L_main_1347 hr ?_
  refine jo_istore hx ([(6, .int r), (5, .int kk), (4, .int (nI (8 * j))), (3, .ref ao), (2, .ref (G.1 111)), (1, .ref (G.1 0)), (0, .ref sb)]) d_L_main_1350 (by decide) rfl ?_
  refine jo_aload_n hx d_L_main_1352 rfl 4 rfl ?_
  refine jo_callVi hx (c_Mo_thrown hG σ2) mo_Mo_thrown mv_Mo_thrown t_1569 (by decide) rfl (by decide) (sh_111 _ _) rfl rfl (Nat.le_of_ble_eq_true rfl) d_L_main_1353 hr ?_
  refine jo_iload hx d_L_main_1356 1 rfl ?_
  refine jo_icmp_eq (tgt := 1363) hx d_L_main_1358 (by decide) (fun h1 => ?_) (fun h1 => absurd hth h1)
  refine jo_iload hx d_L_main_1363 1 rfl ?_
  refine jo_if_ne (tgt := 1380) hx d_L_main_1365 (by decide) (fun h2 => ?_) (fun h2 => ?_)
  · skip
    refine jo_goto (tgt := 2417) hx d_L_main_1380 (by decide) ?_
    exact JO.lsub [2, 3, 4, 5, 6] rfl K
  · skip
    refine jo_aload_n hx d_L_main_1368 rfl 3 rfl ?_
    refine jo_iconst (v := 0) hx d_L_main_1369 (by decide) ?_
    refine jo_lald hx rfl d_L_main_1370 ?_
    refine jo_iload hx d_L_main_1371 0 rfl ?_
    refine jo_i2l hx d_L_main_1373 rfl ?_
    refine jo_lcmp hx d_L_main_1374 ?_
    refine jo_if_eq (tgt := 1380) hx d_L_main_1375 (by decide) (fun h4 => ?_) (fun h4 => absurd ((lg_cmp_eq _ _).mpr (hv h2)) h4)
    refine jo_goto (tgt := 2417) hx d_L_main_1380 (by decide) ?_
    exact JO.lsub [2, 3, 4, 5, 6] rfl K
theorem lc_code (hg : Gl G ao cL A X sb L ks) (hG : zI G) (hj : 8 * j + 8 ≤ L) {a1 : Int32} (e1 : ks (8 * j + 1) = a1) {a2 : Int32} (e2 : ks (8 * j + 2) = a2) {r : Int32} (hW : WO l G ao cL y_L_code method_19_code 5 [(0, 10, 13, 13)] k1 [.ref (G.1 0), .int a1, .int a2, .ref ao] σ w9 kk σ1 v1) (hk1 : k1 < 1000) (hM : MI l G y_Mo_code prog_14_method_84_code 3 .int k2 [.ref (G.1 111), .int a1, .int a2] σ1 r σ2) (hk2 : k2 < 1000) (hth : σ2 111 0 = kk) (hv : kk = 0 → v1 = r.toInt64) (hr : c9 + 1 ≤ (xR X).cells ∧ n9 + 6 ≤ (xR X).slots) (K : JO l G ao cL A X 8 σ2 v1 (c9 + 1) (n9 + 6) 2417 (zLS G ao sb j) []) : JO l G ao cL A X 8 σ w9 c9 n9 1383 (zLS G ao sb j) [] := by
  subst e1
  subst e2
  obtain ⟨hx, hS, hL⟩ := hg
  refine jo_aload_n hx d_L_main_1383 rfl 3 rfl ?_
  refine jo_aload_n hx d_L_main_1384 rfl 4 rfl ?_
  refine jo_iload hx d_L_main_1385 0 rfl ?_
  refine jo_iconst (v := 1) hx d_L_main_1387 (by decide) ?_
  refine jo_iadd hx d_L_main_1388 ?_
  refine jo_sld hx hS hL (i := 8 * j + 1) (by omega) (nI_pl (8 * j) 1) d_L_main_1389 ?_
  refine jo_aload_n hx d_L_main_1390 rfl 4 rfl ?_
  refine jo_iload hx d_L_main_1391 0 rfl ?_
  refine jo_iconst (v := 2) hx d_L_main_1393 (by decide) ?_
  refine jo_iadd hx d_L_main_1394 ?_
  refine jo_sld hx hS hL (i := 8 * j + 2) (by omega) (nI_pl (8 * j) 2) d_L_main_1395 ?_
  refine jo_aload_n hx d_L_main_1396 rfl 1 rfl ?_
  refine jo_callW (n := 4) hx hW t_1210 t_1209 t_1208 t_0 ⟨by decide, by decide, by decide +kernel⟩ (by decide) hk1 rfl rfl (Nat.le_of_ble_eq_true rfl) d_L_main_1397 hr ?_
  refine jo_istore hx ([(5, .int kk), (4, .int (nI (8 * j))), (3, .ref ao), (2, .ref (G.1 111)), (1, .ref (G.1 0)), (0, .ref sb)]) d_L_main_1400 (by decide) rfl ?_
  refine jo_aload_n hx d_L_main_1402 rfl 3 rfl ?_
  refine jo_aload_n hx d_L_main_1403 rfl 5 rfl ?_
  refine jo_iload hx d_L_main_1404 1 rfl ?_
  refine jo_iconst (v := 1) hx d_L_main_1406 (by decide) ?_
  refine jo_iadd hx d_L_main_1407 ?_
  refine jo_sld hx hS hL (i := 8 * j + 1) (by omega) (nI_pl (8 * j) 1) d_L_main_1408 ?_
  refine jo_aload_n hx d_L_main_1409 rfl 5 rfl ?_
  refine jo_iload hx d_L_main_1410 1 rfl ?_
  refine jo_iconst (v := 2) hx d_L_main_1412 (by decide) ?_
  refine jo_iadd hx d_L_main_1413 ?_
  refine jo_sld hx hS hL (i := 8 * j + 2) (by omega) (nI_pl (8 * j) 2) d_L_main_1414 ?_
  refine jo_callVi hx hM mo_Mo_code mv_Mo_code t_1864 hk2 rfl (by decide) (sh_111 _ _) rfl rfl (Nat.le_of_ble_eq_true rfl) d_L_main_1415 hr ?_
  refine jo_istore hx ([(6, .int r), (5, .int kk), (4, .int (nI (8 * j))), (3, .ref ao), (2, .ref (G.1 111)), (1, .ref (G.1 0)), (0, .ref sb)]) d_L_main_1418 (by decide) rfl ?_
  refine jo_aload_n hx d_L_main_1420 rfl 4 rfl ?_
  refine jo_callVi hx (c_Mo_thrown hG σ2) mo_Mo_thrown mv_Mo_thrown t_1569 (by decide) rfl (by decide) (sh_111 _ _) rfl rfl (Nat.le_of_ble_eq_true rfl) d_L_main_1421 hr ?_
  refine jo_iload hx d_L_main_1424 1 rfl ?_
  refine jo_icmp_eq (tgt := 1431) hx d_L_main_1426 (by decide) (fun h1 => ?_) (fun h1 => absurd hth h1)
  refine jo_iload hx d_L_main_1431 1 rfl ?_
  refine jo_if_ne (tgt := 1448) hx d_L_main_1433 (by decide) (fun h2 => ?_) (fun h2 => ?_)
  · skip
    refine jo_goto (tgt := 2417) hx d_L_main_1448 (by decide) ?_
    exact JO.lsub [2, 3, 4, 5, 6] rfl K
  · skip
    refine jo_aload_n hx d_L_main_1436 rfl 3 rfl ?_
    refine jo_iconst (v := 0) hx d_L_main_1437 (by decide) ?_
    refine jo_lald hx rfl d_L_main_1438 ?_
    refine jo_iload hx d_L_main_1439 0 rfl ?_
    refine jo_i2l hx d_L_main_1441 rfl ?_
    refine jo_lcmp hx d_L_main_1442 ?_
    refine jo_if_eq (tgt := 1448) hx d_L_main_1443 (by decide) (fun h4 => ?_) (fun h4 => absurd ((lg_cmp_eq _ _).mpr (hv h2)) h4)
    refine jo_goto (tgt := 2417) hx d_L_main_1448 (by decide) ?_
    exact JO.lsub [2, 3, 4, 5, 6] rfl K
theorem lc_shortest (hg : Gl G ao cL A X sb L ks) (hj : 8 * j + 8 ≤ L) {r : Int32} (hC : MI l G y_DL_shortest prog_1_method_23_code 2 .int k1 [.ref (G.1 0)] σ r σ1) (hk1 : k1 < 1000) (hM : MI l G y_Mo_shortest prog_14_method_85_code 2 .int k2 [.ref (G.1 111)] σ1 r σ2) (hk2 : k2 < 1000) (hr : c9 ≤ (xR X).cells ∧ n9 ≤ (xR X).slots) (K : JO l G ao cL A X 8 σ2 w9 c9 n9 2417 (zLS G ao sb j) []) : JO l G ao cL A X 8 σ w9 c9 n9 1451 (zLS G ao sb j) [] := by
  obtain ⟨hx, hS, hL⟩ := hg
  refine jo_aload_n hx d_L_main_1451 rfl 3 rfl ?_
  refine jo_callVi hx hC mo_DL_shortest mv_DL_shortest t_499 hk1 rfl (by decide) (sh_0 _ _) rfl rfl (Nat.le_of_ble_eq_true rfl) d_L_main_1452 hr ?_
  refine jo_aload_n hx d_L_main_1455 rfl 2 rfl ?_
  refine jo_callVi hx hM mo_Mo_shortest mv_Mo_shortest t_1876 hk2 rfl (by decide) (sh_111 _ _) rfl rfl (Nat.le_of_ble_eq_true rfl) d_L_main_1456 hr ?_
  exact jo_icmp_eq (tgt := 2417) hx d_L_main_1459 (by decide) (fun _ => K) (fun h1 => absurd rfl h1)
theorem lc_wink (hg : Gl G ao cL A X sb L ks) (hG : zI G) (hj : 8 * j + 8 ≤ L) {a1 : Int32} (e1 : ks (8 * j + 1) = a1) {a2 : Int32} (e2 : ks (8 * j + 2) = a2) {a3 : Int32} (e3 : ks (8 * j + 3) = a3) {a4 : Int32} (e4 : ks (8 * j + 4) = a4) {a5 : Int32} (e5 : ks (8 * j + 5) = a5) {a6 : Int32} (e6 : ks (8 * j + 6) = a6) {r : Int64} (hW : WO l G ao cL y_L_wink method_20_code 9 [(0, 17, 20, 13)] k1 [.ref (G.1 0), .int a1, .int a2, .int a3, .int a4, .int a5, .int a6, .ref ao] σ w9 kk σ1 v1) (hk1 : k1 < 1000) (hM : ML l G y_Mo_wink prog_14_method_87_code 17 .long k2 [.ref (G.1 111), .int a1, .int a2, .int a3, .int a4, .int a5, .int a6] σ1 r σ2) (hk2 : k2 < 1000) (hth : σ2 111 0 = kk) (hv : kk = 0 → v1 = r) (hr : c9 + 1 ≤ (xR X).cells ∧ n9 + 6 ≤ (xR X).slots) (K : JO l G ao cL A X 8 σ2 v1 (c9 + 1) (n9 + 6) 2417 (zLS G ao sb j) []) : JO l G ao cL A X 8 σ w9 c9 n9 1464 (zLS G ao sb j) [] := by
  subst e1
  subst e2
  subst e3
  subst e4
  subst e5
  subst e6
  obtain ⟨hx, hS, hL⟩ := hg
  refine jo_aload_n hx d_L_main_1464 rfl 3 rfl ?_
  refine jo_aload_n hx d_L_main_1465 rfl 4 rfl ?_
  refine jo_iload hx d_L_main_1466 0 rfl ?_
  refine jo_iconst (v := 1) hx d_L_main_1468 (by decide) ?_
  refine jo_iadd hx d_L_main_1469 ?_
  refine jo_sld hx hS hL (i := 8 * j + 1) (by omega) (nI_pl (8 * j) 1) d_L_main_1470 ?_
  refine jo_aload_n hx d_L_main_1471 rfl 4 rfl ?_
  refine jo_iload hx d_L_main_1472 0 rfl ?_
  refine jo_iconst (v := 2) hx d_L_main_1474 (by decide) ?_
  refine jo_iadd hx d_L_main_1475 ?_
  refine jo_sld hx hS hL (i := 8 * j + 2) (by omega) (nI_pl (8 * j) 2) d_L_main_1476 ?_
  refine jo_aload_n hx d_L_main_1477 rfl 4 rfl ?_
  refine jo_iload hx d_L_main_1478 0 rfl ?_
  refine jo_iconst (v := 3) hx d_L_main_1480 (by decide) ?_
  refine jo_iadd hx d_L_main_1481 ?_
  refine jo_sld hx hS hL (i := 8 * j + 3) (by omega) (nI_pl (8 * j) 3) d_L_main_1482 ?_
  refine jo_aload_n hx d_L_main_1483 rfl 4 rfl ?_
  refine jo_iload hx d_L_main_1484 0 rfl ?_
  refine jo_iconst (v := 4) hx d_L_main_1486 (by decide) ?_
  refine jo_iadd hx d_L_main_1487 ?_
  refine jo_sld hx hS hL (i := 8 * j + 4) (by omega) (nI_pl (8 * j) 4) d_L_main_1488 ?_
  refine jo_aload_n hx d_L_main_1489 rfl 4 rfl ?_
  refine jo_iload hx d_L_main_1490 0 rfl ?_
  refine jo_iconst (v := 5) hx d_L_main_1492 (by decide) ?_
  refine jo_iadd hx d_L_main_1493 ?_
  refine jo_sld hx hS hL (i := 8 * j + 5) (by omega) (nI_pl (8 * j) 5) d_L_main_1494 ?_
  refine jo_aload_n hx d_L_main_1495 rfl 4 rfl ?_
  refine jo_iload hx d_L_main_1496 0 rfl ?_
  refine jo_bipush (v := 6) hx d_L_main_1498 (by decide) ?_
  refine jo_iadd hx d_L_main_1500 ?_
  refine jo_sld hx hS hL (i := 8 * j + 6) (by omega) (nI_pl (8 * j) 6) d_L_main_1501 ?_
  refine jo_aload_n hx d_L_main_1502 rfl 1 rfl ?_
  refine jo_callW (n := 8) hx hW t_1221 t_1220 t_1219 t_0 ⟨by decide, by decide, by decide +kernel⟩ (by decide) hk1 rfl rfl (Nat.le_of_ble_eq_true rfl) d_L_main_1503 hr ?_
  refine jo_istore hx ([(5, .int kk), (4, .int (nI (8 * j))), (3, .ref ao), (2, .ref (G.1 111)), (1, .ref (G.1 0)), (0, .ref sb)]) d_L_main_1506 (by decide) rfl ?_
  refine jo_aload_n hx d_L_main_1508 rfl 3 rfl ?_
  refine jo_aload_n hx d_L_main_1509 rfl 5 rfl ?_
  refine jo_iload hx d_L_main_1510 1 rfl ?_
  refine jo_iconst (v := 1) hx d_L_main_1512 (by decide) ?_
  refine jo_iadd hx d_L_main_1513 ?_
  refine jo_sld hx hS hL (i := 8 * j + 1) (by omega) (nI_pl (8 * j) 1) d_L_main_1514 ?_
  refine jo_aload_n hx d_L_main_1515 rfl 5 rfl ?_
  refine jo_iload hx d_L_main_1516 1 rfl ?_
  refine jo_iconst (v := 2) hx d_L_main_1518 (by decide) ?_
  refine jo_iadd hx d_L_main_1519 ?_
  refine jo_sld hx hS hL (i := 8 * j + 2) (by omega) (nI_pl (8 * j) 2) d_L_main_1520 ?_
  refine jo_aload_n hx d_L_main_1521 rfl 5 rfl ?_
  refine jo_iload hx d_L_main_1522 1 rfl ?_
  refine jo_iconst (v := 3) hx d_L_main_1524 (by decide) ?_
  refine jo_iadd hx d_L_main_1525 ?_
  refine jo_sld hx hS hL (i := 8 * j + 3) (by omega) (nI_pl (8 * j) 3) d_L_main_1526 ?_
  refine jo_aload_n hx d_L_main_1527 rfl 5 rfl ?_
  refine jo_iload hx d_L_main_1528 1 rfl ?_
  refine jo_iconst (v := 4) hx d_L_main_1530 (by decide) ?_
  refine jo_iadd hx d_L_main_1531 ?_
  refine jo_sld hx hS hL (i := 8 * j + 4) (by omega) (nI_pl (8 * j) 4) d_L_main_1532 ?_
  refine jo_aload_n hx d_L_main_1533 rfl 5 rfl ?_
  refine jo_iload hx d_L_main_1534 1 rfl ?_
  refine jo_iconst (v := 5) hx d_L_main_1536 (by decide) ?_
  refine jo_iadd hx d_L_main_1537 ?_
  refine jo_sld hx hS hL (i := 8 * j + 5) (by omega) (nI_pl (8 * j) 5) d_L_main_1538 ?_
  refine jo_aload_n hx d_L_main_1539 rfl 5 rfl ?_
  refine jo_iload hx d_L_main_1540 1 rfl ?_
  refine jo_bipush (v := 6) hx d_L_main_1542 (by decide) ?_
  refine jo_iadd hx d_L_main_1544 ?_
  refine jo_sld hx hS hL (i := 8 * j + 6) (by omega) (nI_pl (8 * j) 6) d_L_main_1545 ?_
  refine jo_callVl hx hM mo_Mo_wink mv_Mo_wink t_1880 hk2 rfl (by decide) (sh_111 _ _) rfl rfl (Nat.le_of_ble_eq_true rfl) d_L_main_1546 hr ?_
  refine jo_lstore hx ([(6, .long r), (5, .int kk), (4, .int (nI (8 * j))), (3, .ref ao), (2, .ref (G.1 111)), (1, .ref (G.1 0)), (0, .ref sb)]) d_L_main_1549 (by decide) rfl ?_
  refine jo_aload_n hx d_L_main_1551 rfl 4 rfl ?_
  refine jo_callVi hx (c_Mo_thrown hG σ2) mo_Mo_thrown mv_Mo_thrown t_1569 (by decide) rfl (by decide) (sh_111 _ _) rfl rfl (Nat.le_of_ble_eq_true rfl) d_L_main_1552 hr ?_
  refine jo_iload hx d_L_main_1555 1 rfl ?_
  refine jo_icmp_eq (tgt := 1562) hx d_L_main_1557 (by decide) (fun h1 => ?_) (fun h1 => absurd hth h1)
  refine jo_iload hx d_L_main_1562 1 rfl ?_
  refine jo_if_ne (tgt := 1578) hx d_L_main_1564 (by decide) (fun h2 => ?_) (fun h2 => ?_)
  · skip
    refine jo_goto (tgt := 2417) hx d_L_main_1578 (by decide) ?_
    exact JO.lsub [2, 3, 4, 5, 6] rfl K
  · skip
    refine jo_aload_n hx d_L_main_1567 rfl 3 rfl ?_
    refine jo_iconst (v := 0) hx d_L_main_1568 (by decide) ?_
    refine jo_lald hx rfl d_L_main_1569 ?_
    refine jo_lload hx d_L_main_1570 0 rfl ?_
    refine jo_lcmp hx d_L_main_1572 ?_
    refine jo_if_eq (tgt := 1578) hx d_L_main_1573 (by decide) (fun h4 => ?_) (fun h4 => absurd ((lg_cmp_eq _ _).mpr (hv h2)) h4)
    refine jo_goto (tgt := 2417) hx d_L_main_1578 (by decide) ?_
    exact JO.lsub [2, 3, 4, 5, 6] rfl K
theorem lc_carriers (hg : Gl G ao cL A X sb L ks) (hG : zI G) (hj : 8 * j + 8 ≤ L) {a1 : Int32} (e1 : ks (8 * j + 1) = a1) {r : Int32} (hW : WO l G ao cL y_L_carriers method_21_code 4 [(0, 9, 12, 13)] k1 [.ref (G.1 0), .int a1, .ref ao] σ w9 kk σ1 v1) (hk1 : k1 < 1000) (hM : MI l G y_Mo_carriers prog_14_method_90_code 7 .int k2 [.ref (G.1 111), .int a1] σ1 r σ2) (hk2 : k2 < 1000) (hth : σ2 111 0 = kk) (hv : kk = 0 → v1 = r.toInt64) (hr : c9 + 1 ≤ (xR X).cells ∧ n9 + 6 ≤ (xR X).slots) (K : JO l G ao cL A X 8 σ2 v1 (c9 + 1) (n9 + 6) 2417 (zLS G ao sb j) []) : JO l G ao cL A X 8 σ w9 c9 n9 1581 (zLS G ao sb j) [] := by
  subst e1
  obtain ⟨hx, hS, hL⟩ := hg
  refine jo_aload_n hx d_L_main_1581 rfl 3 rfl ?_
  refine jo_aload_n hx d_L_main_1582 rfl 4 rfl ?_
  refine jo_iload hx d_L_main_1583 0 rfl ?_
  refine jo_iconst (v := 1) hx d_L_main_1585 (by decide) ?_
  refine jo_iadd hx d_L_main_1586 ?_
  refine jo_sld hx hS hL (i := 8 * j + 1) (by omega) (nI_pl (8 * j) 1) d_L_main_1587 ?_
  refine jo_aload_n hx d_L_main_1588 rfl 1 rfl ?_
  refine jo_callW (n := 3) hx hW t_1234 t_1233 t_1232 t_0 ⟨by decide, by decide, by decide +kernel⟩ (by decide) hk1 rfl rfl (Nat.le_of_ble_eq_true rfl) d_L_main_1589 hr ?_
  refine jo_istore hx ([(5, .int kk), (4, .int (nI (8 * j))), (3, .ref ao), (2, .ref (G.1 111)), (1, .ref (G.1 0)), (0, .ref sb)]) d_L_main_1592 (by decide) rfl ?_
  refine jo_aload_n hx d_L_main_1594 rfl 3 rfl ?_
  refine jo_aload_n hx d_L_main_1595 rfl 5 rfl ?_
  refine jo_iload hx d_L_main_1596 1 rfl ?_
  refine jo_iconst (v := 1) hx d_L_main_1598 (by decide) ?_
  refine jo_iadd hx d_L_main_1599 ?_
  refine jo_sld hx hS hL (i := 8 * j + 1) (by omega) (nI_pl (8 * j) 1) d_L_main_1600 ?_
  refine jo_callVi hx hM mo_Mo_carriers mv_Mo_carriers t_1887 hk2 rfl (by decide) (sh_111 _ _) rfl rfl (Nat.le_of_ble_eq_true rfl) d_L_main_1601 hr ?_
  refine jo_istore hx ([(6, .int r), (5, .int kk), (4, .int (nI (8 * j))), (3, .ref ao), (2, .ref (G.1 111)), (1, .ref (G.1 0)), (0, .ref sb)]) d_L_main_1604 (by decide) rfl ?_
  refine jo_aload_n hx d_L_main_1606 rfl 4 rfl ?_
  refine jo_callVi hx (c_Mo_thrown hG σ2) mo_Mo_thrown mv_Mo_thrown t_1569 (by decide) rfl (by decide) (sh_111 _ _) rfl rfl (Nat.le_of_ble_eq_true rfl) d_L_main_1607 hr ?_
  refine jo_iload hx d_L_main_1610 1 rfl ?_
  refine jo_icmp_eq (tgt := 1617) hx d_L_main_1612 (by decide) (fun h1 => ?_) (fun h1 => absurd hth h1)
  refine jo_iload hx d_L_main_1617 1 rfl ?_
  refine jo_if_ne (tgt := 1634) hx d_L_main_1619 (by decide) (fun h2 => ?_) (fun h2 => ?_)
  · skip
    refine jo_goto (tgt := 2417) hx d_L_main_1634 (by decide) ?_
    exact JO.lsub [2, 3, 4, 5, 6] rfl K
  · skip
    refine jo_aload_n hx d_L_main_1622 rfl 3 rfl ?_
    refine jo_iconst (v := 0) hx d_L_main_1623 (by decide) ?_
    refine jo_lald hx rfl d_L_main_1624 ?_
    refine jo_iload hx d_L_main_1625 0 rfl ?_
    refine jo_i2l hx d_L_main_1627 rfl ?_
    refine jo_lcmp hx d_L_main_1628 ?_
    refine jo_if_eq (tgt := 1634) hx d_L_main_1629 (by decide) (fun h4 => ?_) (fun h4 => absurd ((lg_cmp_eq _ _).mpr (hv h2)) h4)
    refine jo_goto (tgt := 2417) hx d_L_main_1634 (by decide) ?_
    exact JO.lsub [2, 3, 4, 5, 6] rfl K
theorem lc_share (hg : Gl G ao cL A X sb L ks) (hG : zI G) (hj : 8 * j + 8 ≤ L) {a1 : Int32} (e1 : ks (8 * j + 1) = a1) {a2 : Int32} (e2 : ks (8 * j + 2) = a2) {r : Int32} (hW : WO l G ao cL y_L_share method_22_code 5 [(0, 10, 13, 31), (0, 10, 17, 13)] k1 [.ref (G.1 0), .int a1, .int a2, .ref ao] σ w9 kk σ1 v1) (hk1 : k1 < 1000) (hM : MI l G y_Mo_share prog_14_method_92_code 9 .int k2 [.ref (G.1 111), .int a1, .int a2] σ1 r σ2) (hk2 : k2 < 1000) (hth : σ2 111 0 = kk) (hv : kk = 0 → v1 = r.toInt64) (hr : c9 + 1 ≤ (xR X).cells ∧ n9 + 6 ≤ (xR X).slots) (K : JO l G ao cL A X 8 σ2 v1 (c9 + 1) (n9 + 6) 2417 (zLS G ao sb j) []) : JO l G ao cL A X 8 σ w9 c9 n9 1637 (zLS G ao sb j) [] := by
  subst e1
  subst e2
  obtain ⟨hx, hS, hL⟩ := hg
  refine jo_aload_n hx d_L_main_1637 rfl 3 rfl ?_
  refine jo_aload_n hx d_L_main_1638 rfl 4 rfl ?_
  refine jo_iload hx d_L_main_1639 0 rfl ?_
  refine jo_iconst (v := 1) hx d_L_main_1641 (by decide) ?_
  refine jo_iadd hx d_L_main_1642 ?_
  refine jo_sld hx hS hL (i := 8 * j + 1) (by omega) (nI_pl (8 * j) 1) d_L_main_1643 ?_
  refine jo_aload_n hx d_L_main_1644 rfl 4 rfl ?_
  refine jo_iload hx d_L_main_1645 0 rfl ?_
  refine jo_iconst (v := 2) hx d_L_main_1647 (by decide) ?_
  refine jo_iadd hx d_L_main_1648 ?_
  refine jo_sld hx hS hL (i := 8 * j + 2) (by omega) (nI_pl (8 * j) 2) d_L_main_1649 ?_
  refine jo_aload_n hx d_L_main_1650 rfl 1 rfl ?_
  refine jo_callW (n := 4) hx hW t_1259 t_1258 t_1257 t_0 ⟨by decide, by decide, by decide +kernel⟩ (by decide) hk1 rfl rfl (Nat.le_of_ble_eq_true rfl) d_L_main_1651 hr ?_
  refine jo_istore hx ([(5, .int kk), (4, .int (nI (8 * j))), (3, .ref ao), (2, .ref (G.1 111)), (1, .ref (G.1 0)), (0, .ref sb)]) d_L_main_1654 (by decide) rfl ?_
  refine jo_aload_n hx d_L_main_1656 rfl 3 rfl ?_
  refine jo_aload_n hx d_L_main_1657 rfl 5 rfl ?_
  refine jo_iload hx d_L_main_1658 1 rfl ?_
  refine jo_iconst (v := 1) hx d_L_main_1660 (by decide) ?_
  refine jo_iadd hx d_L_main_1661 ?_
  refine jo_sld hx hS hL (i := 8 * j + 1) (by omega) (nI_pl (8 * j) 1) d_L_main_1662 ?_
  refine jo_aload_n hx d_L_main_1663 rfl 5 rfl ?_
  refine jo_iload hx d_L_main_1664 1 rfl ?_
  refine jo_iconst (v := 2) hx d_L_main_1666 (by decide) ?_
  refine jo_iadd hx d_L_main_1667 ?_
  refine jo_sld hx hS hL (i := 8 * j + 2) (by omega) (nI_pl (8 * j) 2) d_L_main_1668 ?_
  refine jo_callVi hx hM mo_Mo_share mv_Mo_share t_1899 hk2 rfl (by decide) (sh_111 _ _) rfl rfl (Nat.le_of_ble_eq_true rfl) d_L_main_1669 hr ?_
  refine jo_istore hx ([(6, .int r), (5, .int kk), (4, .int (nI (8 * j))), (3, .ref ao), (2, .ref (G.1 111)), (1, .ref (G.1 0)), (0, .ref sb)]) d_L_main_1672 (by decide) rfl ?_
  refine jo_aload_n hx d_L_main_1674 rfl 4 rfl ?_
  refine jo_callVi hx (c_Mo_thrown hG σ2) mo_Mo_thrown mv_Mo_thrown t_1569 (by decide) rfl (by decide) (sh_111 _ _) rfl rfl (Nat.le_of_ble_eq_true rfl) d_L_main_1675 hr ?_
  refine jo_iload hx d_L_main_1678 1 rfl ?_
  refine jo_icmp_eq (tgt := 1685) hx d_L_main_1680 (by decide) (fun h1 => ?_) (fun h1 => absurd hth h1)
  refine jo_iload hx d_L_main_1685 1 rfl ?_
  refine jo_if_ne (tgt := 1702) hx d_L_main_1687 (by decide) (fun h2 => ?_) (fun h2 => ?_)
  · skip
    refine jo_goto (tgt := 2417) hx d_L_main_1702 (by decide) ?_
    exact JO.lsub [2, 3, 4, 5, 6] rfl K
  · skip
    refine jo_aload_n hx d_L_main_1690 rfl 3 rfl ?_
    refine jo_iconst (v := 0) hx d_L_main_1691 (by decide) ?_
    refine jo_lald hx rfl d_L_main_1692 ?_
    refine jo_iload hx d_L_main_1693 0 rfl ?_
    refine jo_i2l hx d_L_main_1695 rfl ?_
    refine jo_lcmp hx d_L_main_1696 ?_
    refine jo_if_eq (tgt := 1702) hx d_L_main_1697 (by decide) (fun h4 => ?_) (fun h4 => absurd ((lg_cmp_eq _ _).mpr (hv h2)) h4)
    refine jo_goto (tgt := 2417) hx d_L_main_1702 (by decide) ?_
    exact JO.lsub [2, 3, 4, 5, 6] rfl K
theorem lc_drawn (hg : Gl G ao cL A X sb L ks) (hG : zI G) (hj : 8 * j + 8 ≤ L) {a1 : Int32} (e1 : ks (8 * j + 1) = a1) {r : Int32} (hW : WO l G ao cL y_L_drawn method_23_code 4 [(0, 9, 12, 31)] k1 [.ref (G.1 0), .int a1, .ref ao] σ w9 kk σ1 v1) (hk1 : k1 < 1000) (hM : MI l G y_Mo_drawn prog_14_method_93_code 4 .int k2 [.ref (G.1 111), .int a1] σ1 r σ2) (hk2 : k2 < 1000) (hth : σ2 111 0 = kk) (hv : kk = 0 → v1 = r.toInt64) (hr : c9 + 1 ≤ (xR X).cells ∧ n9 + 6 ≤ (xR X).slots) (K : JO l G ao cL A X 8 σ2 v1 (c9 + 1) (n9 + 6) 2417 (zLS G ao sb j) []) : JO l G ao cL A X 8 σ w9 c9 n9 1705 (zLS G ao sb j) [] := by
  subst e1
  obtain ⟨hx, hS, hL⟩ := hg
  refine jo_aload_n hx d_L_main_1705 rfl 3 rfl ?_
  refine jo_aload_n hx d_L_main_1706 rfl 4 rfl ?_
  refine jo_iload hx d_L_main_1707 0 rfl ?_
  refine jo_iconst (v := 1) hx d_L_main_1709 (by decide) ?_
  refine jo_iadd hx d_L_main_1710 ?_
  refine jo_sld hx hS hL (i := 8 * j + 1) (by omega) (nI_pl (8 * j) 1) d_L_main_1711 ?_
  refine jo_aload_n hx d_L_main_1712 rfl 1 rfl ?_
  refine jo_callW (n := 3) hx hW t_1272 t_1271 t_1270 t_0 ⟨by decide, by decide, by decide +kernel⟩ (by decide) hk1 rfl rfl (Nat.le_of_ble_eq_true rfl) d_L_main_1713 hr ?_
  refine jo_istore hx ([(5, .int kk), (4, .int (nI (8 * j))), (3, .ref ao), (2, .ref (G.1 111)), (1, .ref (G.1 0)), (0, .ref sb)]) d_L_main_1716 (by decide) rfl ?_
  refine jo_aload_n hx d_L_main_1718 rfl 3 rfl ?_
  refine jo_aload_n hx d_L_main_1719 rfl 5 rfl ?_
  refine jo_iload hx d_L_main_1720 1 rfl ?_
  refine jo_iconst (v := 1) hx d_L_main_1722 (by decide) ?_
  refine jo_iadd hx d_L_main_1723 ?_
  refine jo_sld hx hS hL (i := 8 * j + 1) (by omega) (nI_pl (8 * j) 1) d_L_main_1724 ?_
  refine jo_callVi hx hM mo_Mo_drawn mv_Mo_drawn t_1907 hk2 rfl (by decide) (sh_111 _ _) rfl rfl (Nat.le_of_ble_eq_true rfl) d_L_main_1725 hr ?_
  refine jo_istore hx ([(6, .int r), (5, .int kk), (4, .int (nI (8 * j))), (3, .ref ao), (2, .ref (G.1 111)), (1, .ref (G.1 0)), (0, .ref sb)]) d_L_main_1728 (by decide) rfl ?_
  refine jo_aload_n hx d_L_main_1730 rfl 4 rfl ?_
  refine jo_callVi hx (c_Mo_thrown hG σ2) mo_Mo_thrown mv_Mo_thrown t_1569 (by decide) rfl (by decide) (sh_111 _ _) rfl rfl (Nat.le_of_ble_eq_true rfl) d_L_main_1731 hr ?_
  refine jo_iload hx d_L_main_1734 1 rfl ?_
  refine jo_icmp_eq (tgt := 1741) hx d_L_main_1736 (by decide) (fun h1 => ?_) (fun h1 => absurd hth h1)
  refine jo_iload hx d_L_main_1741 1 rfl ?_
  refine jo_if_ne (tgt := 1758) hx d_L_main_1743 (by decide) (fun h2 => ?_) (fun h2 => ?_)
  · skip
    refine jo_goto (tgt := 2417) hx d_L_main_1758 (by decide) ?_
    exact JO.lsub [2, 3, 4, 5, 6] rfl K
  · skip
    refine jo_aload_n hx d_L_main_1746 rfl 3 rfl ?_
    refine jo_iconst (v := 0) hx d_L_main_1747 (by decide) ?_
    refine jo_lald hx rfl d_L_main_1748 ?_
    refine jo_iload hx d_L_main_1749 0 rfl ?_
    refine jo_i2l hx d_L_main_1751 rfl ?_
    refine jo_lcmp hx d_L_main_1752 ?_
    refine jo_if_eq (tgt := 1758) hx d_L_main_1753 (by decide) (fun h4 => ?_) (fun h4 => absurd ((lg_cmp_eq _ _).mpr (hv h2)) h4)
    refine jo_goto (tgt := 2417) hx d_L_main_1758 (by decide) ?_
    exact JO.lsub [2, 3, 4, 5, 6] rfl K
theorem lc_flash (hg : Gl G ao cL A X sb L ks) (hG : zI G) (hj : 8 * j + 8 ≤ L) {a1 : Int32} (e1 : ks (8 * j + 1) = a1) {a2 : Int32} (e2 : ks (8 * j + 2) = a2) {r : Int32} (hW : WO l G ao cL y_L_flash method_24_code 5 [(0, 10, 13, 31), (0, 10, 17, 13)] k1 [.ref (G.1 0), .int a1, .int a2, .ref ao] σ w9 kk σ1 v1) (hk1 : k1 < 1000) (hM : MI l G y_Mo_flash prog_14_method_94_code 4 .int k2 [.ref (G.1 111), .int a1, .int a2] σ1 r σ2) (hk2 : k2 < 1000) (hth : σ2 111 0 = kk) (hv : kk = 0 → v1 = r.toInt64) (hr : c9 + 1 ≤ (xR X).cells ∧ n9 + 6 ≤ (xR X).slots) (K : JO l G ao cL A X 8 σ2 v1 (c9 + 1) (n9 + 6) 2417 (zLS G ao sb j) []) : JO l G ao cL A X 8 σ w9 c9 n9 1761 (zLS G ao sb j) [] := by
  subst e1
  subst e2
  obtain ⟨hx, hS, hL⟩ := hg
  refine jo_aload_n hx d_L_main_1761 rfl 3 rfl ?_
  refine jo_aload_n hx d_L_main_1762 rfl 4 rfl ?_
  refine jo_iload hx d_L_main_1763 0 rfl ?_
  refine jo_iconst (v := 1) hx d_L_main_1765 (by decide) ?_
  refine jo_iadd hx d_L_main_1766 ?_
  refine jo_sld hx hS hL (i := 8 * j + 1) (by omega) (nI_pl (8 * j) 1) d_L_main_1767 ?_
  refine jo_aload_n hx d_L_main_1768 rfl 4 rfl ?_
  refine jo_iload hx d_L_main_1769 0 rfl ?_
  refine jo_iconst (v := 2) hx d_L_main_1771 (by decide) ?_
  refine jo_iadd hx d_L_main_1772 ?_
  refine jo_sld hx hS hL (i := 8 * j + 2) (by omega) (nI_pl (8 * j) 2) d_L_main_1773 ?_
  refine jo_aload_n hx d_L_main_1774 rfl 1 rfl ?_
  refine jo_callW (n := 4) hx hW t_1280 t_1279 t_1278 t_0 ⟨by decide, by decide, by decide +kernel⟩ (by decide) hk1 rfl rfl (Nat.le_of_ble_eq_true rfl) d_L_main_1775 hr ?_
  refine jo_istore hx ([(5, .int kk), (4, .int (nI (8 * j))), (3, .ref ao), (2, .ref (G.1 111)), (1, .ref (G.1 0)), (0, .ref sb)]) d_L_main_1778 (by decide) rfl ?_
  refine jo_aload_n hx d_L_main_1780 rfl 3 rfl ?_
  refine jo_aload_n hx d_L_main_1781 rfl 5 rfl ?_
  refine jo_iload hx d_L_main_1782 1 rfl ?_
  refine jo_iconst (v := 1) hx d_L_main_1784 (by decide) ?_
  refine jo_iadd hx d_L_main_1785 ?_
  refine jo_sld hx hS hL (i := 8 * j + 1) (by omega) (nI_pl (8 * j) 1) d_L_main_1786 ?_
  refine jo_aload_n hx d_L_main_1787 rfl 5 rfl ?_
  refine jo_iload hx d_L_main_1788 1 rfl ?_
  refine jo_iconst (v := 2) hx d_L_main_1790 (by decide) ?_
  refine jo_iadd hx d_L_main_1791 ?_
  refine jo_sld hx hS hL (i := 8 * j + 2) (by omega) (nI_pl (8 * j) 2) d_L_main_1792 ?_
  refine jo_callVi hx hM mo_Mo_flash mv_Mo_flash t_1911 hk2 rfl (by decide) (sh_111 _ _) rfl rfl (Nat.le_of_ble_eq_true rfl) d_L_main_1793 hr ?_
  refine jo_istore hx ([(6, .int r), (5, .int kk), (4, .int (nI (8 * j))), (3, .ref ao), (2, .ref (G.1 111)), (1, .ref (G.1 0)), (0, .ref sb)]) d_L_main_1796 (by decide) rfl ?_
  refine jo_aload_n hx d_L_main_1798 rfl 4 rfl ?_
  refine jo_callVi hx (c_Mo_thrown hG σ2) mo_Mo_thrown mv_Mo_thrown t_1569 (by decide) rfl (by decide) (sh_111 _ _) rfl rfl (Nat.le_of_ble_eq_true rfl) d_L_main_1799 hr ?_
  refine jo_iload hx d_L_main_1802 1 rfl ?_
  refine jo_icmp_eq (tgt := 1809) hx d_L_main_1804 (by decide) (fun h1 => ?_) (fun h1 => absurd hth h1)
  refine jo_iload hx d_L_main_1809 1 rfl ?_
  refine jo_if_ne (tgt := 1826) hx d_L_main_1811 (by decide) (fun h2 => ?_) (fun h2 => ?_)
  · skip
    refine jo_goto (tgt := 2417) hx d_L_main_1826 (by decide) ?_
    exact JO.lsub [2, 3, 4, 5, 6] rfl K
  · skip
    refine jo_aload_n hx d_L_main_1814 rfl 3 rfl ?_
    refine jo_iconst (v := 0) hx d_L_main_1815 (by decide) ?_
    refine jo_lald hx rfl d_L_main_1816 ?_
    refine jo_iload hx d_L_main_1817 0 rfl ?_
    refine jo_i2l hx d_L_main_1819 rfl ?_
    refine jo_lcmp hx d_L_main_1820 ?_
    refine jo_if_eq (tgt := 1826) hx d_L_main_1821 (by decide) (fun h4 => ?_) (fun h4 => absurd ((lg_cmp_eq _ _).mpr (hv h2)) h4)
    refine jo_goto (tgt := 2417) hx d_L_main_1826 (by decide) ?_
    exact JO.lsub [2, 3, 4, 5, 6] rfl K
theorem lc_alike (hg : Gl G ao cL A X sb L ks) (hG : zI G) (hj : 8 * j + 8 ≤ L) {a1 : Int32} (e1 : ks (8 * j + 1) = a1) {a2 : Int32} (e2 : ks (8 * j + 2) = a2) {a3 : Int32} (e3 : ks (8 * j + 3) = a3) {r : Int32} (hW : WO l G ao cL y_L_alike method_25_code 6 [(0, 12, 15, 31), (0, 12, 19, 13)] k1 [.ref (G.1 0), .int a1, .int a2, .int a3, .ref ao] σ w9 kk σ1 v1) (hk1 : k1 < 1000) (hM : MI l G y_Mo_alike prog_14_method_95_code 9 .int k2 [.ref (G.1 111), .int a1, .int a2, .int a3] σ1 r σ2) (hk2 : k2 < 1000) (hth : σ2 111 0 = kk) (hv : kk = 0 → v1 = r.toInt64) (hr : c9 + 1 ≤ (xR X).cells ∧ n9 + 6 ≤ (xR X).slots) (K : JO l G ao cL A X 8 σ2 v1 (c9 + 1) (n9 + 6) 2417 (zLS G ao sb j) []) : JO l G ao cL A X 8 σ w9 c9 n9 1829 (zLS G ao sb j) [] := by
  subst e1
  subst e2
  subst e3
  obtain ⟨hx, hS, hL⟩ := hg
  refine jo_aload_n hx d_L_main_1829 rfl 3 rfl ?_
  refine jo_aload_n hx d_L_main_1830 rfl 4 rfl ?_
  refine jo_iload hx d_L_main_1831 0 rfl ?_
  refine jo_iconst (v := 1) hx d_L_main_1833 (by decide) ?_
  refine jo_iadd hx d_L_main_1834 ?_
  refine jo_sld hx hS hL (i := 8 * j + 1) (by omega) (nI_pl (8 * j) 1) d_L_main_1835 ?_
  refine jo_aload_n hx d_L_main_1836 rfl 4 rfl ?_
  refine jo_iload hx d_L_main_1837 0 rfl ?_
  refine jo_iconst (v := 2) hx d_L_main_1839 (by decide) ?_
  refine jo_iadd hx d_L_main_1840 ?_
  refine jo_sld hx hS hL (i := 8 * j + 2) (by omega) (nI_pl (8 * j) 2) d_L_main_1841 ?_
  refine jo_aload_n hx d_L_main_1842 rfl 4 rfl ?_
  refine jo_iload hx d_L_main_1843 0 rfl ?_
  refine jo_iconst (v := 3) hx d_L_main_1845 (by decide) ?_
  refine jo_iadd hx d_L_main_1846 ?_
  refine jo_sld hx hS hL (i := 8 * j + 3) (by omega) (nI_pl (8 * j) 3) d_L_main_1847 ?_
  refine jo_aload_n hx d_L_main_1848 rfl 1 rfl ?_
  refine jo_callW (n := 5) hx hW t_1288 t_1287 t_1286 t_0 ⟨by decide, by decide, by decide +kernel⟩ (by decide) hk1 rfl rfl (Nat.le_of_ble_eq_true rfl) d_L_main_1849 hr ?_
  refine jo_istore hx ([(5, .int kk), (4, .int (nI (8 * j))), (3, .ref ao), (2, .ref (G.1 111)), (1, .ref (G.1 0)), (0, .ref sb)]) d_L_main_1852 (by decide) rfl ?_
  refine jo_aload_n hx d_L_main_1854 rfl 3 rfl ?_
  refine jo_aload_n hx d_L_main_1855 rfl 5 rfl ?_
  refine jo_iload hx d_L_main_1856 1 rfl ?_
  refine jo_iconst (v := 1) hx d_L_main_1858 (by decide) ?_
  refine jo_iadd hx d_L_main_1859 ?_
  refine jo_sld hx hS hL (i := 8 * j + 1) (by omega) (nI_pl (8 * j) 1) d_L_main_1860 ?_
  refine jo_aload_n hx d_L_main_1861 rfl 5 rfl ?_
  refine jo_iload hx d_L_main_1862 1 rfl ?_
  refine jo_iconst (v := 2) hx d_L_main_1864 (by decide) ?_
  refine jo_iadd hx d_L_main_1865 ?_
  refine jo_sld hx hS hL (i := 8 * j + 2) (by omega) (nI_pl (8 * j) 2) d_L_main_1866 ?_
  refine jo_aload_n hx d_L_main_1867 rfl 5 rfl ?_
  refine jo_iload hx d_L_main_1868 1 rfl ?_
  refine jo_iconst (v := 3) hx d_L_main_1870 (by decide) ?_
  refine jo_iadd hx d_L_main_1871 ?_
  refine jo_sld hx hS hL (i := 8 * j + 3) (by omega) (nI_pl (8 * j) 3) d_L_main_1872 ?_
  refine jo_callVi hx hM mo_Mo_alike mv_Mo_alike t_1915 hk2 rfl (by decide) (sh_111 _ _) rfl rfl (Nat.le_of_ble_eq_true rfl) d_L_main_1873 hr ?_
  refine jo_istore hx ([(6, .int r), (5, .int kk), (4, .int (nI (8 * j))), (3, .ref ao), (2, .ref (G.1 111)), (1, .ref (G.1 0)), (0, .ref sb)]) d_L_main_1876 (by decide) rfl ?_
  refine jo_aload_n hx d_L_main_1878 rfl 4 rfl ?_
  refine jo_callVi hx (c_Mo_thrown hG σ2) mo_Mo_thrown mv_Mo_thrown t_1569 (by decide) rfl (by decide) (sh_111 _ _) rfl rfl (Nat.le_of_ble_eq_true rfl) d_L_main_1879 hr ?_
  refine jo_iload hx d_L_main_1882 1 rfl ?_
  refine jo_icmp_eq (tgt := 1889) hx d_L_main_1884 (by decide) (fun h1 => ?_) (fun h1 => absurd hth h1)
  refine jo_iload hx d_L_main_1889 1 rfl ?_
  refine jo_if_ne (tgt := 1906) hx d_L_main_1891 (by decide) (fun h2 => ?_) (fun h2 => ?_)
  · skip
    refine jo_goto (tgt := 2417) hx d_L_main_1906 (by decide) ?_
    exact JO.lsub [2, 3, 4, 5, 6] rfl K
  · skip
    refine jo_aload_n hx d_L_main_1894 rfl 3 rfl ?_
    refine jo_iconst (v := 0) hx d_L_main_1895 (by decide) ?_
    refine jo_lald hx rfl d_L_main_1896 ?_
    refine jo_iload hx d_L_main_1897 0 rfl ?_
    refine jo_i2l hx d_L_main_1899 rfl ?_
    refine jo_lcmp hx d_L_main_1900 ?_
    refine jo_if_eq (tgt := 1906) hx d_L_main_1901 (by decide) (fun h4 => ?_) (fun h4 => absurd ((lg_cmp_eq _ _).mpr (hv h2)) h4)
    refine jo_goto (tgt := 2417) hx d_L_main_1906 (by decide) ?_
    exact JO.lsub [2, 3, 4, 5, 6] rfl K
theorem lc_blind (hg : Gl G ao cL A X sb L ks) (hG : zI G) (hj : 8 * j + 8 ≤ L) {a1 : Int32} (e1 : ks (8 * j + 1) = a1) {r : Int32} (hW : WO l G ao cL y_L_blind method_26_code 4 [(0, 9, 12, 31)] k1 [.ref (G.1 0), .int a1, .ref ao] σ w9 kk σ1 v1) (hk1 : k1 < 1000) (hM : MI l G y_Mo_blind prog_14_method_96_code 2 .int k2 [.ref (G.1 111), .int a1] σ1 r σ2) (hk2 : k2 < 1000) (hth : σ2 111 0 = kk) (hv : kk = 0 → v1 = r.toInt64) (hr : c9 + 1 ≤ (xR X).cells ∧ n9 + 6 ≤ (xR X).slots) (K : JO l G ao cL A X 8 σ2 v1 (c9 + 1) (n9 + 6) 2417 (zLS G ao sb j) []) : JO l G ao cL A X 8 σ w9 c9 n9 1909 (zLS G ao sb j) [] := by
  subst e1
  obtain ⟨hx, hS, hL⟩ := hg
  refine jo_aload_n hx d_L_main_1909 rfl 3 rfl ?_
  refine jo_aload_n hx d_L_main_1910 rfl 4 rfl ?_
  refine jo_iload hx d_L_main_1911 0 rfl ?_
  refine jo_iconst (v := 1) hx d_L_main_1913 (by decide) ?_
  refine jo_iadd hx d_L_main_1914 ?_
  refine jo_sld hx hS hL (i := 8 * j + 1) (by omega) (nI_pl (8 * j) 1) d_L_main_1915 ?_
  refine jo_aload_n hx d_L_main_1916 rfl 1 rfl ?_
  refine jo_callW (n := 3) hx hW t_1296 t_1295 t_1294 t_0 ⟨by decide, by decide, by decide +kernel⟩ (by decide) hk1 rfl rfl (Nat.le_of_ble_eq_true rfl) d_L_main_1917 hr ?_
  refine jo_istore hx ([(5, .int kk), (4, .int (nI (8 * j))), (3, .ref ao), (2, .ref (G.1 111)), (1, .ref (G.1 0)), (0, .ref sb)]) d_L_main_1920 (by decide) rfl ?_
  refine jo_aload_n hx d_L_main_1922 rfl 3 rfl ?_
  refine jo_aload_n hx d_L_main_1923 rfl 5 rfl ?_
  refine jo_iload hx d_L_main_1924 1 rfl ?_
  refine jo_iconst (v := 1) hx d_L_main_1926 (by decide) ?_
  refine jo_iadd hx d_L_main_1927 ?_
  refine jo_sld hx hS hL (i := 8 * j + 1) (by omega) (nI_pl (8 * j) 1) d_L_main_1928 ?_
  refine jo_callVi hx hM mo_Mo_blind mv_Mo_blind t_1919 hk2 rfl (by decide) (sh_111 _ _) rfl rfl (Nat.le_of_ble_eq_true rfl) d_L_main_1929 hr ?_
  refine jo_istore hx ([(6, .int r), (5, .int kk), (4, .int (nI (8 * j))), (3, .ref ao), (2, .ref (G.1 111)), (1, .ref (G.1 0)), (0, .ref sb)]) d_L_main_1932 (by decide) rfl ?_
  refine jo_aload_n hx d_L_main_1934 rfl 4 rfl ?_
  refine jo_callVi hx (c_Mo_thrown hG σ2) mo_Mo_thrown mv_Mo_thrown t_1569 (by decide) rfl (by decide) (sh_111 _ _) rfl rfl (Nat.le_of_ble_eq_true rfl) d_L_main_1935 hr ?_
  refine jo_iload hx d_L_main_1938 1 rfl ?_
  refine jo_icmp_eq (tgt := 1945) hx d_L_main_1940 (by decide) (fun h1 => ?_) (fun h1 => absurd hth h1)
  refine jo_iload hx d_L_main_1945 1 rfl ?_
  refine jo_if_ne (tgt := 1962) hx d_L_main_1947 (by decide) (fun h2 => ?_) (fun h2 => ?_)
  · skip
    refine jo_goto (tgt := 2417) hx d_L_main_1962 (by decide) ?_
    exact JO.lsub [2, 3, 4, 5, 6] rfl K
  · skip
    refine jo_aload_n hx d_L_main_1950 rfl 3 rfl ?_
    refine jo_iconst (v := 0) hx d_L_main_1951 (by decide) ?_
    refine jo_lald hx rfl d_L_main_1952 ?_
    refine jo_iload hx d_L_main_1953 0 rfl ?_
    refine jo_i2l hx d_L_main_1955 rfl ?_
    refine jo_lcmp hx d_L_main_1956 ?_
    refine jo_if_eq (tgt := 1962) hx d_L_main_1957 (by decide) (fun h4 => ?_) (fun h4 => absurd ((lg_cmp_eq _ _).mpr (hv h2)) h4)
    refine jo_goto (tgt := 2417) hx d_L_main_1962 (by decide) ?_
    exact JO.lsub [2, 3, 4, 5, 6] rfl K
theorem lc_reefs (hg : Gl G ao cL A X sb L ks) (hG : zI G) (hj : 8 * j + 8 ≤ L) {a1 : Int32} (e1 : ks (8 * j + 1) = a1) {r : Int32} (hW : WO l G ao cL y_L_reefs method_27_code 4 [(0, 9, 12, 13)] k1 [.ref (G.1 0), .int a1, .ref ao] σ w9 kk σ1 v1) (hk1 : k1 < 1000) (hM : MI l G y_Mo_reefs prog_14_method_99_code 7 .int k2 [.ref (G.1 111), .int a1] σ1 r σ2) (hk2 : k2 < 1000) (hth : σ2 111 0 = kk) (hv : kk = 0 → v1 = r.toInt64) (hr : c9 + 1 ≤ (xR X).cells ∧ n9 + 6 ≤ (xR X).slots) (K : JO l G ao cL A X 8 σ2 v1 (c9 + 1) (n9 + 6) 2417 (zLS G ao sb j) []) : JO l G ao cL A X 8 σ w9 c9 n9 1965 (zLS G ao sb j) [] := by
  subst e1
  obtain ⟨hx, hS, hL⟩ := hg
  refine jo_aload_n hx d_L_main_1965 rfl 3 rfl ?_
  refine jo_aload_n hx d_L_main_1966 rfl 4 rfl ?_
  refine jo_iload hx d_L_main_1967 0 rfl ?_
  refine jo_iconst (v := 1) hx d_L_main_1969 (by decide) ?_
  refine jo_iadd hx d_L_main_1970 ?_
  refine jo_sld hx hS hL (i := 8 * j + 1) (by omega) (nI_pl (8 * j) 1) d_L_main_1971 ?_
  refine jo_aload_n hx d_L_main_1972 rfl 1 rfl ?_
  refine jo_callW (n := 3) hx hW t_1307 t_1306 t_1305 t_0 ⟨by decide, by decide, by decide +kernel⟩ (by decide) hk1 rfl rfl (Nat.le_of_ble_eq_true rfl) d_L_main_1973 hr ?_
  refine jo_istore hx ([(5, .int kk), (4, .int (nI (8 * j))), (3, .ref ao), (2, .ref (G.1 111)), (1, .ref (G.1 0)), (0, .ref sb)]) d_L_main_1976 (by decide) rfl ?_
  refine jo_aload_n hx d_L_main_1978 rfl 3 rfl ?_
  refine jo_aload_n hx d_L_main_1979 rfl 5 rfl ?_
  refine jo_iload hx d_L_main_1980 1 rfl ?_
  refine jo_iconst (v := 1) hx d_L_main_1982 (by decide) ?_
  refine jo_iadd hx d_L_main_1983 ?_
  refine jo_sld hx hS hL (i := 8 * j + 1) (by omega) (nI_pl (8 * j) 1) d_L_main_1984 ?_
  refine jo_callVi hx hM mo_Mo_reefs mv_Mo_reefs t_1931 hk2 rfl (by decide) (sh_111 _ _) rfl rfl (Nat.le_of_ble_eq_true rfl) d_L_main_1985 hr ?_
  refine jo_istore hx ([(6, .int r), (5, .int kk), (4, .int (nI (8 * j))), (3, .ref ao), (2, .ref (G.1 111)), (1, .ref (G.1 0)), (0, .ref sb)]) d_L_main_1988 (by decide) rfl ?_
  refine jo_aload_n hx d_L_main_1990 rfl 4 rfl ?_
  refine jo_callVi hx (c_Mo_thrown hG σ2) mo_Mo_thrown mv_Mo_thrown t_1569 (by decide) rfl (by decide) (sh_111 _ _) rfl rfl (Nat.le_of_ble_eq_true rfl) d_L_main_1991 hr ?_
  refine jo_iload hx d_L_main_1994 1 rfl ?_
  refine jo_icmp_eq (tgt := 2001) hx d_L_main_1996 (by decide) (fun h1 => ?_) (fun h1 => absurd hth h1)
  refine jo_iload hx d_L_main_2001 1 rfl ?_
  refine jo_if_ne (tgt := 2018) hx d_L_main_2003 (by decide) (fun h2 => ?_) (fun h2 => ?_)
  · skip
    refine jo_goto (tgt := 2417) hx d_L_main_2018 (by decide) ?_
    exact JO.lsub [2, 3, 4, 5, 6] rfl K
  · skip
    refine jo_aload_n hx d_L_main_2006 rfl 3 rfl ?_
    refine jo_iconst (v := 0) hx d_L_main_2007 (by decide) ?_
    refine jo_lald hx rfl d_L_main_2008 ?_
    refine jo_iload hx d_L_main_2009 0 rfl ?_
    refine jo_i2l hx d_L_main_2011 rfl ?_
    refine jo_lcmp hx d_L_main_2012 ?_
    refine jo_if_eq (tgt := 2018) hx d_L_main_2013 (by decide) (fun h4 => ?_) (fun h4 => absurd ((lg_cmp_eq _ _).mpr (hv h2)) h4)
    refine jo_goto (tgt := 2417) hx d_L_main_2018 (by decide) ?_
    exact JO.lsub [2, 3, 4, 5, 6] rfl K
theorem lc_brightest (hg : Gl G ao cL A X sb L ks) (hG : zI G) (hj : 8 * j + 8 ≤ L) {a1 : Int32} (e1 : ks (8 * j + 1) = a1) {r : Int32} (hW : WO l G ao cL y_L_brightest method_28_code 4 [(0, 9, 12, 13)] k1 [.ref (G.1 0), .int a1, .ref ao] σ w9 kk σ1 v1) (hk1 : k1 < 1000) (hM : MI l G y_Mo_brightest prog_14_method_97_code 6 .int k2 [.ref (G.1 111), .int a1] σ1 r σ2) (hk2 : k2 < 1000) (hth : σ2 111 0 = kk) (hv : kk = 0 → v1 = r.toInt64) (hr : c9 + 1 ≤ (xR X).cells ∧ n9 + 6 ≤ (xR X).slots) (K : JO l G ao cL A X 8 σ2 v1 (c9 + 1) (n9 + 6) 2417 (zLS G ao sb j) []) : JO l G ao cL A X 8 σ w9 c9 n9 2021 (zLS G ao sb j) [] := by
  subst e1
  obtain ⟨hx, hS, hL⟩ := hg
  refine jo_aload_n hx d_L_main_2021 rfl 3 rfl ?_
  refine jo_aload_n hx d_L_main_2022 rfl 4 rfl ?_
  refine jo_iload hx d_L_main_2023 0 rfl ?_
  refine jo_iconst (v := 1) hx d_L_main_2025 (by decide) ?_
  refine jo_iadd hx d_L_main_2026 ?_
  refine jo_sld hx hS hL (i := 8 * j + 1) (by omega) (nI_pl (8 * j) 1) d_L_main_2027 ?_
  refine jo_aload_n hx d_L_main_2028 rfl 1 rfl ?_
  refine jo_callW (n := 3) hx hW t_1327 t_1326 t_1325 t_0 ⟨by decide, by decide, by decide +kernel⟩ (by decide) hk1 rfl rfl (Nat.le_of_ble_eq_true rfl) d_L_main_2029 hr ?_
  refine jo_istore hx ([(5, .int kk), (4, .int (nI (8 * j))), (3, .ref ao), (2, .ref (G.1 111)), (1, .ref (G.1 0)), (0, .ref sb)]) d_L_main_2032 (by decide) rfl ?_
  refine jo_aload_n hx d_L_main_2034 rfl 3 rfl ?_
  refine jo_aload_n hx d_L_main_2035 rfl 5 rfl ?_
  refine jo_iload hx d_L_main_2036 1 rfl ?_
  refine jo_iconst (v := 1) hx d_L_main_2038 (by decide) ?_
  refine jo_iadd hx d_L_main_2039 ?_
  refine jo_sld hx hS hL (i := 8 * j + 1) (by omega) (nI_pl (8 * j) 1) d_L_main_2040 ?_
  refine jo_callVi hx hM mo_Mo_brightest mv_Mo_brightest t_1923 hk2 rfl (by decide) (sh_111 _ _) rfl rfl (Nat.le_of_ble_eq_true rfl) d_L_main_2041 hr ?_
  refine jo_istore hx ([(6, .int r), (5, .int kk), (4, .int (nI (8 * j))), (3, .ref ao), (2, .ref (G.1 111)), (1, .ref (G.1 0)), (0, .ref sb)]) d_L_main_2044 (by decide) rfl ?_
  refine jo_aload_n hx d_L_main_2046 rfl 4 rfl ?_
  refine jo_callVi hx (c_Mo_thrown hG σ2) mo_Mo_thrown mv_Mo_thrown t_1569 (by decide) rfl (by decide) (sh_111 _ _) rfl rfl (Nat.le_of_ble_eq_true rfl) d_L_main_2047 hr ?_
  refine jo_iload hx d_L_main_2050 1 rfl ?_
  refine jo_icmp_eq (tgt := 2057) hx d_L_main_2052 (by decide) (fun h1 => ?_) (fun h1 => absurd hth h1)
  refine jo_iload hx d_L_main_2057 1 rfl ?_
  refine jo_if_ne (tgt := 2074) hx d_L_main_2059 (by decide) (fun h2 => ?_) (fun h2 => ?_)
  · skip
    refine jo_goto (tgt := 2417) hx d_L_main_2074 (by decide) ?_
    exact JO.lsub [2, 3, 4, 5, 6] rfl K
  · skip
    refine jo_aload_n hx d_L_main_2062 rfl 3 rfl ?_
    refine jo_iconst (v := 0) hx d_L_main_2063 (by decide) ?_
    refine jo_lald hx rfl d_L_main_2064 ?_
    refine jo_iload hx d_L_main_2065 0 rfl ?_
    refine jo_i2l hx d_L_main_2067 rfl ?_
    refine jo_lcmp hx d_L_main_2068 ?_
    refine jo_if_eq (tgt := 2074) hx d_L_main_2069 (by decide) (fun h4 => ?_) (fun h4 => absurd ((lg_cmp_eq _ _).mpr (hv h2)) h4)
    refine jo_goto (tgt := 2417) hx d_L_main_2074 (by decide) ?_
    exact JO.lsub [2, 3, 4, 5, 6] rfl K
theorem lc_wrecks (hg : Gl G ao cL A X sb L ks) (hG : zI G) (hj : 8 * j + 8 ≤ L) {a1 : Int32} (e1 : ks (8 * j + 1) = a1) {a2 : Int32} (e2 : ks (8 * j + 2) = a2) {r : Int32} (hW : WO l G ao cL y_L_wrecks method_29_code 5 [(0, 10, 13, 13)] k1 [.ref (G.1 0), .int a1, .int a2, .ref ao] σ w9 kk σ1 v1) (hk1 : k1 < 1000) (hM : MI l G y_Mo_wrecks prog_14_method_98_code 7 .int k2 [.ref (G.1 111), .int a1, .int a2] σ1 r σ2) (hk2 : k2 < 1000) (hth : σ2 111 0 = kk) (hv : kk = 0 → v1 = r.toInt64) (hr : c9 + 1 ≤ (xR X).cells ∧ n9 + 6 ≤ (xR X).slots) (K : JO l G ao cL A X 8 σ2 v1 (c9 + 1) (n9 + 6) 2417 (zLS G ao sb j) []) : JO l G ao cL A X 8 σ w9 c9 n9 2077 (zLS G ao sb j) [] := by
  subst e1
  subst e2
  obtain ⟨hx, hS, hL⟩ := hg
  refine jo_aload_n hx d_L_main_2077 rfl 3 rfl ?_
  refine jo_aload_n hx d_L_main_2078 rfl 4 rfl ?_
  refine jo_iload hx d_L_main_2079 0 rfl ?_
  refine jo_iconst (v := 1) hx d_L_main_2081 (by decide) ?_
  refine jo_iadd hx d_L_main_2082 ?_
  refine jo_sld hx hS hL (i := 8 * j + 1) (by omega) (nI_pl (8 * j) 1) d_L_main_2083 ?_
  refine jo_aload_n hx d_L_main_2084 rfl 4 rfl ?_
  refine jo_iload hx d_L_main_2085 0 rfl ?_
  refine jo_iconst (v := 2) hx d_L_main_2087 (by decide) ?_
  refine jo_iadd hx d_L_main_2088 ?_
  refine jo_sld hx hS hL (i := 8 * j + 2) (by omega) (nI_pl (8 * j) 2) d_L_main_2089 ?_
  refine jo_aload_n hx d_L_main_2090 rfl 1 rfl ?_
  refine jo_callW (n := 4) hx hW t_1334 t_1333 t_1332 t_0 ⟨by decide, by decide, by decide +kernel⟩ (by decide) hk1 rfl rfl (Nat.le_of_ble_eq_true rfl) d_L_main_2091 hr ?_
  refine jo_istore hx ([(5, .int kk), (4, .int (nI (8 * j))), (3, .ref ao), (2, .ref (G.1 111)), (1, .ref (G.1 0)), (0, .ref sb)]) d_L_main_2094 (by decide) rfl ?_
  refine jo_aload_n hx d_L_main_2096 rfl 3 rfl ?_
  refine jo_aload_n hx d_L_main_2097 rfl 5 rfl ?_
  refine jo_iload hx d_L_main_2098 1 rfl ?_
  refine jo_iconst (v := 1) hx d_L_main_2100 (by decide) ?_
  refine jo_iadd hx d_L_main_2101 ?_
  refine jo_sld hx hS hL (i := 8 * j + 1) (by omega) (nI_pl (8 * j) 1) d_L_main_2102 ?_
  refine jo_aload_n hx d_L_main_2103 rfl 5 rfl ?_
  refine jo_iload hx d_L_main_2104 1 rfl ?_
  refine jo_iconst (v := 2) hx d_L_main_2106 (by decide) ?_
  refine jo_iadd hx d_L_main_2107 ?_
  refine jo_sld hx hS hL (i := 8 * j + 2) (by omega) (nI_pl (8 * j) 2) d_L_main_2108 ?_
  refine jo_callVi hx hM mo_Mo_wrecks mv_Mo_wrecks t_1927 hk2 rfl (by decide) (sh_111 _ _) rfl rfl (Nat.le_of_ble_eq_true rfl) d_L_main_2109 hr ?_
  refine jo_istore hx ([(6, .int r), (5, .int kk), (4, .int (nI (8 * j))), (3, .ref ao), (2, .ref (G.1 111)), (1, .ref (G.1 0)), (0, .ref sb)]) d_L_main_2112 (by decide) rfl ?_
  refine jo_aload_n hx d_L_main_2114 rfl 4 rfl ?_
  refine jo_callVi hx (c_Mo_thrown hG σ2) mo_Mo_thrown mv_Mo_thrown t_1569 (by decide) rfl (by decide) (sh_111 _ _) rfl rfl (Nat.le_of_ble_eq_true rfl) d_L_main_2115 hr ?_
  refine jo_iload hx d_L_main_2118 1 rfl ?_
  refine jo_icmp_eq (tgt := 2125) hx d_L_main_2120 (by decide) (fun h1 => ?_) (fun h1 => absurd hth h1)
  refine jo_iload hx d_L_main_2125 1 rfl ?_
  refine jo_if_ne (tgt := 2142) hx d_L_main_2127 (by decide) (fun h2 => ?_) (fun h2 => ?_)
  · skip
    refine jo_goto (tgt := 2417) hx d_L_main_2142 (by decide) ?_
    exact JO.lsub [2, 3, 4, 5, 6] rfl K
  · skip
    refine jo_aload_n hx d_L_main_2130 rfl 3 rfl ?_
    refine jo_iconst (v := 0) hx d_L_main_2131 (by decide) ?_
    refine jo_lald hx rfl d_L_main_2132 ?_
    refine jo_iload hx d_L_main_2133 0 rfl ?_
    refine jo_i2l hx d_L_main_2135 rfl ?_
    refine jo_lcmp hx d_L_main_2136 ?_
    refine jo_if_eq (tgt := 2142) hx d_L_main_2137 (by decide) (fun h4 => ?_) (fun h4 => absurd ((lg_cmp_eq _ _).mpr (hv h2)) h4)
    refine jo_goto (tgt := 2417) hx d_L_main_2142 (by decide) ?_
    exact JO.lsub [2, 3, 4, 5, 6] rfl K
theorem lc_winter (hg : Gl G ao cL A X sb L ks) (hG : zI G) (hj : 8 * j + 8 ≤ L) {a1 : Int32} (e1 : ks (8 * j + 1) = a1) {a2 : Int32} (e2 : ks (8 * j + 2) = a2) {a3 : Int32} (e3 : ks (8 * j + 3) = a3) {a4 : Int32} (e4 : ks (8 * j + 4) = a4) {r : Int32} (hW : WO l G ao cL y_L_winter method_30_code 7 [(0, 14, 17, 13)] k1 [.ref (G.1 0), .int a1, .int a2, .int a3, .int a4, .ref ao] σ w9 kk σ1 v1) (hk1 : k1 < 1000) (hM : MI l G y_Mo_winter prog_14_method_103_code 5 .int k2 [.ref (G.1 111), .int a1, .int a2, .int a3, .int a4] σ1 r σ2) (hk2 : k2 < 1000) (hth : σ2 111 0 = kk) (hv : kk = 0 → v1 = r.toInt64) (hr : c9 + 1 ≤ (xR X).cells ∧ n9 + 6 ≤ (xR X).slots) (K : JO l G ao cL A X 8 σ2 v1 (c9 + 1) (n9 + 6) 2417 (zLS G ao sb j) []) : JO l G ao cL A X 8 σ w9 c9 n9 2145 (zLS G ao sb j) [] := by
  subst e1
  subst e2
  subst e3
  subst e4
  obtain ⟨hx, hS, hL⟩ := hg
  refine jo_aload_n hx d_L_main_2145 rfl 3 rfl ?_
  refine jo_aload_n hx d_L_main_2146 rfl 4 rfl ?_
  refine jo_iload hx d_L_main_2147 0 rfl ?_
  refine jo_iconst (v := 1) hx d_L_main_2149 (by decide) ?_
  refine jo_iadd hx d_L_main_2150 ?_
  refine jo_sld hx hS hL (i := 8 * j + 1) (by omega) (nI_pl (8 * j) 1) d_L_main_2151 ?_
  refine jo_aload_n hx d_L_main_2152 rfl 4 rfl ?_
  refine jo_iload hx d_L_main_2153 0 rfl ?_
  refine jo_iconst (v := 2) hx d_L_main_2155 (by decide) ?_
  refine jo_iadd hx d_L_main_2156 ?_
  refine jo_sld hx hS hL (i := 8 * j + 2) (by omega) (nI_pl (8 * j) 2) d_L_main_2157 ?_
  refine jo_aload_n hx d_L_main_2158 rfl 4 rfl ?_
  refine jo_iload hx d_L_main_2159 0 rfl ?_
  refine jo_iconst (v := 3) hx d_L_main_2161 (by decide) ?_
  refine jo_iadd hx d_L_main_2162 ?_
  refine jo_sld hx hS hL (i := 8 * j + 3) (by omega) (nI_pl (8 * j) 3) d_L_main_2163 ?_
  refine jo_aload_n hx d_L_main_2164 rfl 4 rfl ?_
  refine jo_iload hx d_L_main_2165 0 rfl ?_
  refine jo_iconst (v := 4) hx d_L_main_2167 (by decide) ?_
  refine jo_iadd hx d_L_main_2168 ?_
  refine jo_sld hx hS hL (i := 8 * j + 4) (by omega) (nI_pl (8 * j) 4) d_L_main_2169 ?_
  refine jo_aload_n hx d_L_main_2170 rfl 1 rfl ?_
  refine jo_callW (n := 6) hx hW t_1346 t_1345 t_1344 t_0 ⟨by decide, by decide, by decide +kernel⟩ (by decide) hk1 rfl rfl (Nat.le_of_ble_eq_true rfl) d_L_main_2171 hr ?_
  refine jo_istore hx ([(5, .int kk), (4, .int (nI (8 * j))), (3, .ref ao), (2, .ref (G.1 111)), (1, .ref (G.1 0)), (0, .ref sb)]) d_L_main_2174 (by decide) rfl ?_
  refine jo_aload_n hx d_L_main_2176 rfl 3 rfl ?_
  refine jo_aload_n hx d_L_main_2177 rfl 5 rfl ?_
  refine jo_iload hx d_L_main_2178 1 rfl ?_
  refine jo_iconst (v := 1) hx d_L_main_2180 (by decide) ?_
  refine jo_iadd hx d_L_main_2181 ?_
  refine jo_sld hx hS hL (i := 8 * j + 1) (by omega) (nI_pl (8 * j) 1) d_L_main_2182 ?_
  refine jo_aload_n hx d_L_main_2183 rfl 5 rfl ?_
  refine jo_iload hx d_L_main_2184 1 rfl ?_
  refine jo_iconst (v := 2) hx d_L_main_2186 (by decide) ?_
  refine jo_iadd hx d_L_main_2187 ?_
  refine jo_sld hx hS hL (i := 8 * j + 2) (by omega) (nI_pl (8 * j) 2) d_L_main_2188 ?_
  refine jo_aload_n hx d_L_main_2189 rfl 5 rfl ?_
  refine jo_iload hx d_L_main_2190 1 rfl ?_
  refine jo_iconst (v := 3) hx d_L_main_2192 (by decide) ?_
  refine jo_iadd hx d_L_main_2193 ?_
  refine jo_sld hx hS hL (i := 8 * j + 3) (by omega) (nI_pl (8 * j) 3) d_L_main_2194 ?_
  refine jo_aload_n hx d_L_main_2195 rfl 5 rfl ?_
  refine jo_iload hx d_L_main_2196 1 rfl ?_
  refine jo_iconst (v := 4) hx d_L_main_2198 (by decide) ?_
  refine jo_iadd hx d_L_main_2199 ?_
  refine jo_sld hx hS hL (i := 8 * j + 4) (by omega) (nI_pl (8 * j) 4) d_L_main_2200 ?_
  refine jo_callVi hx hM mo_Mo_winter mv_Mo_winter t_1935 hk2 rfl (by decide) (sh_111 _ _) rfl rfl (Nat.le_of_ble_eq_true rfl) d_L_main_2201 hr ?_
  refine jo_istore hx ([(6, .int r), (5, .int kk), (4, .int (nI (8 * j))), (3, .ref ao), (2, .ref (G.1 111)), (1, .ref (G.1 0)), (0, .ref sb)]) d_L_main_2204 (by decide) rfl ?_
  refine jo_aload_n hx d_L_main_2206 rfl 4 rfl ?_
  refine jo_callVi hx (c_Mo_thrown hG σ2) mo_Mo_thrown mv_Mo_thrown t_1569 (by decide) rfl (by decide) (sh_111 _ _) rfl rfl (Nat.le_of_ble_eq_true rfl) d_L_main_2207 hr ?_
  refine jo_iload hx d_L_main_2210 1 rfl ?_
  refine jo_icmp_eq (tgt := 2217) hx d_L_main_2212 (by decide) (fun h1 => ?_) (fun h1 => absurd hth h1)
  refine jo_iload hx d_L_main_2217 1 rfl ?_
  refine jo_if_ne (tgt := 2234) hx d_L_main_2219 (by decide) (fun h2 => ?_) (fun h2 => ?_)
  · skip
    refine jo_goto (tgt := 2417) hx d_L_main_2234 (by decide) ?_
    exact JO.lsub [2, 3, 4, 5, 6] rfl K
  · skip
    refine jo_aload_n hx d_L_main_2222 rfl 3 rfl ?_
    refine jo_iconst (v := 0) hx d_L_main_2223 (by decide) ?_
    refine jo_lald hx rfl d_L_main_2224 ?_
    refine jo_iload hx d_L_main_2225 0 rfl ?_
    refine jo_i2l hx d_L_main_2227 rfl ?_
    refine jo_lcmp hx d_L_main_2228 ?_
    refine jo_if_eq (tgt := 2234) hx d_L_main_2229 (by decide) (fun h4 => ?_) (fun h4 => absurd ((lg_cmp_eq _ _).mpr (hv h2)) h4)
    refine jo_goto (tgt := 2417) hx d_L_main_2234 (by decide) ?_
    exact JO.lsub [2, 3, 4, 5, 6] rfl K
theorem lc_span (hg : Gl G ao cL A X sb L ks) (hG : zI G) (hj : 8 * j + 8 ≤ L) {a1 : Int32} (e1 : ks (8 * j + 1) = a1) {a2 : Int32} (e2 : ks (8 * j + 2) = a2) {a3 : Int32} (e3 : ks (8 * j + 3) = a3) {a4 : Int32} (e4 : ks (8 * j + 4) = a4) {a5 : Int32} (e5 : ks (8 * j + 5) = a5) {r : Int32} (hW : WO l G ao cL y_L_span method_31_code 8 [(0, 16, 19, 13)] k1 [.ref (G.1 0), .int a1, .int a2, .int a3, .int a4, .int a5, .ref ao] σ w9 kk σ1 v1) (hk1 : k1 < 1000) (hM : MI l G y_Mo_span prog_14_method_104_code 11 .int k2 [.ref (G.1 111), .int a1, .int a2, .int a3, .int a4, .int a5] σ1 r σ2) (hk2 : k2 < 1000) (hth : σ2 111 0 = kk) (hv : kk = 0 → v1 = r.toInt64) (hr : c9 + 1 ≤ (xR X).cells ∧ n9 + 6 ≤ (xR X).slots) (K : JO l G ao cL A X 8 σ2 v1 (c9 + 1) (n9 + 6) 2417 (zLS G ao sb j) []) : JO l G ao cL A X 8 σ w9 c9 n9 2237 (zLS G ao sb j) [] := by
  subst e1
  subst e2
  subst e3
  subst e4
  subst e5
  obtain ⟨hx, hS, hL⟩ := hg
  refine jo_aload_n hx d_L_main_2237 rfl 3 rfl ?_
  refine jo_aload_n hx d_L_main_2238 rfl 4 rfl ?_
  refine jo_iload hx d_L_main_2239 0 rfl ?_
  refine jo_iconst (v := 1) hx d_L_main_2241 (by decide) ?_
  refine jo_iadd hx d_L_main_2242 ?_
  refine jo_sld hx hS hL (i := 8 * j + 1) (by omega) (nI_pl (8 * j) 1) d_L_main_2243 ?_
  refine jo_aload_n hx d_L_main_2244 rfl 4 rfl ?_
  refine jo_iload hx d_L_main_2245 0 rfl ?_
  refine jo_iconst (v := 2) hx d_L_main_2247 (by decide) ?_
  refine jo_iadd hx d_L_main_2248 ?_
  refine jo_sld hx hS hL (i := 8 * j + 2) (by omega) (nI_pl (8 * j) 2) d_L_main_2249 ?_
  refine jo_aload_n hx d_L_main_2250 rfl 4 rfl ?_
  refine jo_iload hx d_L_main_2251 0 rfl ?_
  refine jo_iconst (v := 3) hx d_L_main_2253 (by decide) ?_
  refine jo_iadd hx d_L_main_2254 ?_
  refine jo_sld hx hS hL (i := 8 * j + 3) (by omega) (nI_pl (8 * j) 3) d_L_main_2255 ?_
  refine jo_aload_n hx d_L_main_2256 rfl 4 rfl ?_
  refine jo_iload hx d_L_main_2257 0 rfl ?_
  refine jo_iconst (v := 4) hx d_L_main_2259 (by decide) ?_
  refine jo_iadd hx d_L_main_2260 ?_
  refine jo_sld hx hS hL (i := 8 * j + 4) (by omega) (nI_pl (8 * j) 4) d_L_main_2261 ?_
  refine jo_aload_n hx d_L_main_2262 rfl 4 rfl ?_
  refine jo_iload hx d_L_main_2263 0 rfl ?_
  refine jo_iconst (v := 5) hx d_L_main_2265 (by decide) ?_
  refine jo_iadd hx d_L_main_2266 ?_
  refine jo_sld hx hS hL (i := 8 * j + 5) (by omega) (nI_pl (8 * j) 5) d_L_main_2267 ?_
  refine jo_aload_n hx d_L_main_2268 rfl 1 rfl ?_
  refine jo_callW (n := 7) hx hW t_1393 t_1392 t_1391 t_0 ⟨by decide, by decide, by decide +kernel⟩ (by decide) hk1 rfl rfl (Nat.le_of_ble_eq_true rfl) d_L_main_2269 hr ?_
  refine jo_istore hx ([(5, .int kk), (4, .int (nI (8 * j))), (3, .ref ao), (2, .ref (G.1 111)), (1, .ref (G.1 0)), (0, .ref sb)]) d_L_main_2272 (by decide) rfl ?_
  refine jo_aload_n hx d_L_main_2274 rfl 3 rfl ?_
  refine jo_aload_n hx d_L_main_2275 rfl 5 rfl ?_
  refine jo_iload hx d_L_main_2276 1 rfl ?_
  refine jo_iconst (v := 1) hx d_L_main_2278 (by decide) ?_
  refine jo_iadd hx d_L_main_2279 ?_
  refine jo_sld hx hS hL (i := 8 * j + 1) (by omega) (nI_pl (8 * j) 1) d_L_main_2280 ?_
  refine jo_aload_n hx d_L_main_2281 rfl 5 rfl ?_
  refine jo_iload hx d_L_main_2282 1 rfl ?_
  refine jo_iconst (v := 2) hx d_L_main_2284 (by decide) ?_
  refine jo_iadd hx d_L_main_2285 ?_
  refine jo_sld hx hS hL (i := 8 * j + 2) (by omega) (nI_pl (8 * j) 2) d_L_main_2286 ?_
  refine jo_aload_n hx d_L_main_2287 rfl 5 rfl ?_
  refine jo_iload hx d_L_main_2288 1 rfl ?_
  refine jo_iconst (v := 3) hx d_L_main_2290 (by decide) ?_
  refine jo_iadd hx d_L_main_2291 ?_
  refine jo_sld hx hS hL (i := 8 * j + 3) (by omega) (nI_pl (8 * j) 3) d_L_main_2292 ?_
  refine jo_aload_n hx d_L_main_2293 rfl 5 rfl ?_
  refine jo_iload hx d_L_main_2294 1 rfl ?_
  refine jo_iconst (v := 4) hx d_L_main_2296 (by decide) ?_
  refine jo_iadd hx d_L_main_2297 ?_
  refine jo_sld hx hS hL (i := 8 * j + 4) (by omega) (nI_pl (8 * j) 4) d_L_main_2298 ?_
  refine jo_aload_n hx d_L_main_2299 rfl 5 rfl ?_
  refine jo_iload hx d_L_main_2300 1 rfl ?_
  refine jo_iconst (v := 5) hx d_L_main_2302 (by decide) ?_
  refine jo_iadd hx d_L_main_2303 ?_
  refine jo_sld hx hS hL (i := 8 * j + 5) (by omega) (nI_pl (8 * j) 5) d_L_main_2304 ?_
  refine jo_callVi hx hM mo_Mo_span mv_Mo_span t_1951 hk2 rfl (by decide) (sh_111 _ _) rfl rfl (Nat.le_of_ble_eq_true rfl) d_L_main_2305 hr ?_
  refine jo_istore hx ([(6, .int r), (5, .int kk), (4, .int (nI (8 * j))), (3, .ref ao), (2, .ref (G.1 111)), (1, .ref (G.1 0)), (0, .ref sb)]) d_L_main_2308 (by decide) rfl ?_
  refine jo_aload_n hx d_L_main_2310 rfl 4 rfl ?_
  refine jo_callVi hx (c_Mo_thrown hG σ2) mo_Mo_thrown mv_Mo_thrown t_1569 (by decide) rfl (by decide) (sh_111 _ _) rfl rfl (Nat.le_of_ble_eq_true rfl) d_L_main_2311 hr ?_
  refine jo_iload hx d_L_main_2314 1 rfl ?_
  refine jo_icmp_eq (tgt := 2321) hx d_L_main_2316 (by decide) (fun h1 => ?_) (fun h1 => absurd hth h1)
  refine jo_iload hx d_L_main_2321 1 rfl ?_
  refine jo_if_ne (tgt := 2338) hx d_L_main_2323 (by decide) (fun h2 => ?_) (fun h2 => ?_)
  · skip
    refine jo_goto (tgt := 2417) hx d_L_main_2338 (by decide) ?_
    exact JO.lsub [2, 3, 4, 5, 6] rfl K
  · skip
    refine jo_aload_n hx d_L_main_2326 rfl 3 rfl ?_
    refine jo_iconst (v := 0) hx d_L_main_2327 (by decide) ?_
    refine jo_lald hx rfl d_L_main_2328 ?_
    refine jo_iload hx d_L_main_2329 0 rfl ?_
    refine jo_i2l hx d_L_main_2331 rfl ?_
    refine jo_lcmp hx d_L_main_2332 ?_
    refine jo_if_eq (tgt := 2338) hx d_L_main_2333 (by decide) (fun h4 => ?_) (fun h4 => absurd ((lg_cmp_eq _ _).mpr (hv h2)) h4)
    refine jo_goto (tgt := 2417) hx d_L_main_2338 (by decide) ?_
    exact JO.lsub [2, 3, 4, 5, 6] rfl K
theorem lc_image (hg : Gl G ao cL A X sb L ks) (hj : 8 * j + 8 ≤ L) {r : Int32} (hC : MI l G y_DL_image prog_1_method_36_code 1 .int k1 [.ref (G.1 0)] σ r σ1) (hk1 : k1 < 1000) (hM : MI l G y_Mo_image prog_14_method_107_code 1 .int k2 [.ref (G.1 111)] σ1 r σ2) (hk2 : k2 < 1000) (hr : c9 ≤ (xR X).cells ∧ n9 ≤ (xR X).slots) (K : JO l G ao cL A X 8 σ2 w9 c9 n9 2417 (zLS G ao sb j) []) : JO l G ao cL A X 8 σ w9 c9 n9 2341 (zLS G ao sb j) [] := by
  obtain ⟨hx, hS, hL⟩ := hg
  refine jo_aload_n hx d_L_main_2341 rfl 3 rfl ?_
  refine jo_callVi hx hC mo_DL_image mv_DL_image t_519 hk1 rfl (by decide) (sh_0 _ _) rfl rfl (Nat.le_of_ble_eq_true rfl) d_L_main_2342 hr ?_
  refine jo_aload_n hx d_L_main_2345 rfl 2 rfl ?_
  refine jo_callVi hx hM mo_Mo_image mv_Mo_image t_1955 hk2 rfl (by decide) (sh_111 _ _) rfl rfl (Nat.le_of_ble_eq_true rfl) d_L_main_2346 hr ?_
  exact jo_icmp_eq (tgt := 2417) hx d_L_main_2349 (by decide) (fun _ => K) (fun h1 => absurd rfl h1)
theorem lc_restore (hg : Gl G ao cL A X sb L ks) (hj : 8 * j + 8 ≤ L) {r : Int32} (hC : MI l G y_DL_restore prog_1_method_37_code 1 .int k1 [.ref (G.1 0)] σ r σ1) (hk1 : k1 < 1000) (hM : MI l G y_Mo_restore prog_14_method_108_code 1 .int k2 [.ref (G.1 111)] σ1 r σ2) (hk2 : k2 < 1000) (hr : c9 ≤ (xR X).cells ∧ n9 ≤ (xR X).slots) (K : JO l G ao cL A X 8 σ2 w9 c9 n9 2417 (zLS G ao sb j) []) : JO l G ao cL A X 8 σ w9 c9 n9 2354 (zLS G ao sb j) [] := by
  obtain ⟨hx, hS, hL⟩ := hg
  refine jo_aload_n hx d_L_main_2354 rfl 3 rfl ?_
  refine jo_callVi hx hC mo_DL_restore mv_DL_restore t_532 hk1 rfl (by decide) (sh_0 _ _) rfl rfl (Nat.le_of_ble_eq_true rfl) d_L_main_2355 hr ?_
  refine jo_aload_n hx d_L_main_2358 rfl 2 rfl ?_
  refine jo_callVi hx hM mo_Mo_restore mv_Mo_restore t_1967 hk2 rfl (by decide) (sh_111 _ _) rfl rfl (Nat.le_of_ble_eq_true rfl) d_L_main_2359 hr ?_
  exact jo_icmp_eq (tgt := 2417) hx d_L_main_2362 (by decide) (fun _ => K) (fun h1 => absurd rfl h1)
theorem lc_status (hg : Gl G ao cL A X sb L ks) (hj : 8 * j + 8 ≤ L) {a1 : Int32} (e1 : ks (8 * j + 1) = a1) {r : Int32} (hC : MI l G y_DL_status prog_1_method_38_code 2 .int k1 [.ref (G.1 0), .int a1] σ r σ1) (hk1 : k1 < 1000) (hM : MI l G y_Mo_status prog_14_method_109_code 2 .int k2 [.ref (G.1 111), .int a1] σ1 r σ2) (hk2 : k2 < 1000) (hr : c9 ≤ (xR X).cells ∧ n9 ≤ (xR X).slots) (K : JO l G ao cL A X 8 σ2 w9 c9 n9 2417 (zLS G ao sb j) []) : JO l G ao cL A X 8 σ w9 c9 n9 2367 (zLS G ao sb j) [] := by
  subst e1
  obtain ⟨hx, hS, hL⟩ := hg
  refine jo_aload_n hx d_L_main_2367 rfl 3 rfl ?_
  refine jo_aload_n hx d_L_main_2368 rfl 4 rfl ?_
  refine jo_iload hx d_L_main_2369 0 rfl ?_
  refine jo_iconst (v := 1) hx d_L_main_2371 (by decide) ?_
  refine jo_iadd hx d_L_main_2372 ?_
  refine jo_sld hx hS hL (i := 8 * j + 1) (by omega) (nI_pl (8 * j) 1) d_L_main_2373 ?_
  refine jo_callVi hx hC mo_DL_status mv_DL_status t_541 hk1 rfl (by decide) (sh_0 _ _) rfl rfl (Nat.le_of_ble_eq_true rfl) d_L_main_2374 hr ?_
  refine jo_aload_n hx d_L_main_2377 rfl 2 rfl ?_
  refine jo_aload_n hx d_L_main_2378 rfl 4 rfl ?_
  refine jo_iload hx d_L_main_2379 0 rfl ?_
  refine jo_iconst (v := 1) hx d_L_main_2381 (by decide) ?_
  refine jo_iadd hx d_L_main_2382 ?_
  refine jo_sld hx hS hL (i := 8 * j + 1) (by omega) (nI_pl (8 * j) 1) d_L_main_2383 ?_
  refine jo_callVi hx hM mo_Mo_status mv_Mo_status t_1971 hk2 rfl (by decide) (sh_111 _ _) rfl rfl (Nat.le_of_ble_eq_true rfl) d_L_main_2384 hr ?_
  exact jo_icmp_eq (tgt := 2417) hx d_L_main_2387 (by decide) (fun _ => K) (fun h1 => absurd rfl h1)
theorem lc_count (hg : Gl G ao cL A X sb L ks) (hj : 8 * j + 8 ≤ L) {a1 : Int32} (e1 : ks (8 * j + 1) = a1) {r : Int32} (hC : MI l G y_DL_count prog_1_method_39_code 2 .int k1 [.ref (G.1 0), .int a1] σ r σ1) (hk1 : k1 < 1000) (hM : MI l G y_Mo_count prog_14_method_110_code 2 .int k2 [.ref (G.1 111), .int a1] σ1 r σ2) (hk2 : k2 < 1000) (hr : c9 ≤ (xR X).cells ∧ n9 ≤ (xR X).slots) (K : JO l G ao cL A X 8 σ2 w9 c9 n9 2417 (zLS G ao sb j) []) : JO l G ao cL A X 8 σ w9 c9 n9 2392 (zLS G ao sb j) [] := by
  subst e1
  obtain ⟨hx, hS, hL⟩ := hg
  refine jo_aload_n hx d_L_main_2392 rfl 3 rfl ?_
  refine jo_aload_n hx d_L_main_2393 rfl 4 rfl ?_
  refine jo_iload hx d_L_main_2394 0 rfl ?_
  refine jo_iconst (v := 1) hx d_L_main_2396 (by decide) ?_
  refine jo_iadd hx d_L_main_2397 ?_
  refine jo_sld hx hS hL (i := 8 * j + 1) (by omega) (nI_pl (8 * j) 1) d_L_main_2398 ?_
  refine jo_callVi hx hC mo_DL_count mv_DL_count t_545 hk1 rfl (by decide) (sh_0 _ _) rfl rfl (Nat.le_of_ble_eq_true rfl) d_L_main_2399 hr ?_
  refine jo_aload_n hx d_L_main_2402 rfl 2 rfl ?_
  refine jo_aload_n hx d_L_main_2403 rfl 4 rfl ?_
  refine jo_iload hx d_L_main_2404 0 rfl ?_
  refine jo_iconst (v := 1) hx d_L_main_2406 (by decide) ?_
  refine jo_iadd hx d_L_main_2407 ?_
  refine jo_sld hx hS hL (i := 8 * j + 1) (by omega) (nI_pl (8 * j) 1) d_L_main_2408 ?_
  refine jo_callVi hx hM mo_Mo_count mv_Mo_count t_1975 hk2 rfl (by decide) (sh_111 _ _) rfl rfl (Nat.le_of_ble_eq_true rfl) d_L_main_2409 hr ?_
  exact jo_icmp_eq (tgt := 2417) hx d_L_main_2412 (by decide) (fun _ => K) (fun h1 => absurd rfl h1)
end LC
