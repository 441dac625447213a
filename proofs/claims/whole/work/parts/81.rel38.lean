/-! ===== a log read by both ===== -/
theorem nuS_4 {s : St} {lo hi : Int32} : nuS s lo hi 1 4 = s 1 3 := by
  unfold nuS; split
  · rw [bl_k (by decide) (by decide), mvt_k (by decide), nu1_4]
  · rw [mvt_k (by decide), nu1_4]
theorem wr_same {t : St} {k p : Int32} (h : ¬ t 111 5 = 0) : wr t k p = t := by unfold wr; exact if_neg h
theorem lg2_o {t : St} {i o : Nat} (h : o ≠ 111) : lg2 t i o = t o := by
  induction i with
  | zero => exact mnS_o h
  | succ i ih =>
    rw [lg2_s]; split
    · rw [wr_o h, ih]
    · exact ih
theorem lg2_no {t : St} {i : Nat} (h : ¬ mnS t 0 59 111 5 = 0) : lg2 t i = mnS t 0 59 := by
  induction i with
  | zero => rfl
  | succ i ih => rw [lg2_s, ih, if_neg (fun z => h z.1)]
theorem lg2_a {t : St} : ∀ i : Nat, (∀ k, k < i → ¬ t (499 + k) 0 = mnV t 0 59) → lg2 t i = mnS t 0 59 := by
  intro i
  induction i with
  | zero => intro _; rfl
  | succ i ih =>
    intro hn
    rw [lg2_s, ih (fun k hk => hn k (by omega)), if_neg]
    intro z
    refine hn i (by omega) ?_
    have := z.2; rw [mnS_o (by omega)] at this; exact this
theorem lg2_b {t : St} (h5 : mnS t 0 59 111 5 = 0) : ∀ i : Nat, (∃ k, k < i ∧ t (499 + k) 0 = mnV t 0 59) → lg2 t i = wr (mnS t 0 59) 2 (t 111 4) := by
  intro i
  induction i with
  | zero => intro ⟨k, hk, _⟩; exact absurd hk (Nat.not_lt_zero k)
  | succ i ih =>
    intro hy
    by_cases q : ∃ k, k < i ∧ t (499 + k) 0 = mnV t 0 59
    · rw [lg2_s, ih q, if_neg (fun z => wr_5 (by decide) z.1)]
    · obtain ⟨k, hk, z⟩ := hy
      have hki : k = i := by
        rcases Nat.lt_or_ge k i with y | y
        · exact absurd ⟨k, y, z⟩ q
        · omega
      subst hki
      rw [lg2_s, lg2_a k (fun j hj y => q ⟨j, hj, y⟩), if_pos ⟨h5, by rw [mnS_o (by omega)]; exact z⟩]
theorem lg3_o {t : St} {i o : Nat} (h : o ≠ 111) : lg3 t i o = t o := by
  unfold lg3; split
  · rw [wr_o h, lg2_o h]
  · exact lg2_o h
theorem lg5_o {t : St} {i o : Nat} (h : o ≠ 111) : lg5 t i o = t o := by
  unfold lg5; rw [msg_o h, mnS_o h, lg3_o h]
theorem lg6_o {t : St} {i o : Nat} (h : o ≠ 111) (h2 : o ≠ 499 + i) : lg6 t i o = t o := by
  unfold lg6; split
  · rw [up_o h2, up_o h2, lg5_o h]
  · exact lg5_o h
def DG (s t : St) (i : Nat) : Prop := s 71 1 = nI i ∧ i ≤ 12 ∧ (∀ k, k < i → ∃ m, m < 60 ∧ t (499 + k) 0 = nI m ∧ (t (499 + k) 1 = 0 ∨ t (499 + k) 1 = 1) ∧ s 73 m = t (499 + k) 1 + 1) ∧ ∀ m, m < 60 → s 73 m = 0 ∨ ∃ k, k < i ∧ t (499 + k) 0 = nI m
theorem nI_inj {a b : Nat} (ha : a < 100000) (hb : b < 100000) (h : nI a = nI b) : a = b := by
  rw [i_eq, i_nI (by omega), i_nI (by omega)] at h; omega
theorem lnS_o {s : St} {o : Nat} (h : o ≠ 1) (h2 : o ≠ 71) (h3 : o ≠ 73) : lnS s o = s o := by
  have a1 : ln1 s o = s o := by
    unfold ln1; split
    · exact nuS_o h
    · rw [bl_o h, nuS_o h]
  have a2 : ln2 (ln1 s) o = s o := by
    unfold ln2; split
    · exact a1
    · rw [bl_o h, a1]
  show up (tkR (ln3 (ln2 (ln1 s)) (nuV (nu1 s))) 59) 71 1 _ o = _
  rw [up_o h2, tkR_o h]
  unfold ln3
  rw [rs_o (o := 72) h3, nuS_o h, a2]
set_option maxHeartbeats 4000000 in
theorem lg_step {s t : St} {i : Nat} (h : SY s t) (h5 : t 111 5 = 0) (hN : mbl t = t) (hD : DG s t i) : SY (lnS s) (lg6 t i) ∧ (lg6 t i 111 5 = 0 → DG (lnS s) (lg6 t i) (i + 1) ∧ mlgN t i = i + 1) := by
  obtain ⟨d1, d2, d3, d4⟩ := hD
  obtain ⟨S1, V1⟩ := h.ynu (lo := 0) (hi := 59) (by decide) (by decide)
  have e14 : (nuS s 0 59) 1 4 = t 111 4 := by rw [nuS_4, (h.pl h5).1, hN]
  have e73 : (nuS s 0 59) 73 = s 73 := nuS_o (by decide)
  have rngm : mnS t 0 59 111 5 = 0 → ∃ m, m < 60 ∧ mnV t 0 59 = nI m ∧ nuV (nu1 s) = nI m := fun f => by
    obtain ⟨v1, v2, v3⟩ := V1 f
    rw [i_le] at v2 v3
    have z0 : (0 : Int32).toInt = 0 := rfl
    have z59 : (59 : Int32).toInt = 59 := rfl
    exact ⟨(mnV t 0 59).toInt.toNat, by omega, (nI_bk (by omega)).symm, by rw [v1]; exact (nI_bk (by omega)).symm⟩
  have A : SY (ln1 s) (lg2 t i) ∧ (lg2 t i 111 5 = 0 → mnS t 0 59 111 5 = 0 ∧ ∀ k, k < i → ¬ t (499 + k) 0 = mnV t 0 59) := by
    by_cases f : mnS t 0 59 111 5 = 0
    · obtain ⟨m, hm, em, ev⟩ := rngm f
      by_cases q : s 73 m = 0
      · have hn : ∀ k, k < i → ¬ t (499 + k) 0 = mnV t 0 59 := fun k hk z => by
          obtain ⟨m', hm', a, b, c⟩ := d3 k hk
          rw [a, em] at z
          have := nI_inj (by omega) (by omega) z
          subst this
          rw [q] at c
          rcases b with y | y <;> rw [y] at c <;> exact absurd c (by decide)
        have e : ln1 s = nuS s 0 59 := by
          unfold ln1; rw [if_pos]; rw [e73, ev, rg_nI hm (by decide)]; exact q
        rw [e, lg2_a i hn]; exact ⟨S1, fun _ => ⟨f, hn⟩⟩
      · obtain ⟨k, hk, z⟩ := (d4 m hm).resolve_left q
        have e : ln1 s = bl (nuS s 0 59) 2 ((nuS s 0 59) 1 4) := by
          unfold ln1; rw [if_neg]; rw [e73, ev, rg_nI hm (by decide)]; exact q
        rw [e, e14, lg2_b f i ⟨k, hk, by rw [z, em]⟩]
        exact ⟨S1.ywr (by decide), fun y => absurd y (wr_5 (by decide))⟩
    · have e : ln1 s = nuS s 0 59 := by
        unfold ln1; split
        · rfl
        · exact bl_same (fun z => f (S1.2.2.2.1.symm.trans z))
      rw [e, lg2_no f]; exact ⟨S1, fun y => absurd y f⟩
  have o1 : ∀ o, o ≠ 1 → ln1 s o = s o := fun o a => by
    unfold ln1; split
    · exact nuS_o a
    · rw [bl_o a, nuS_o a]
  have k14 : ln1 s 1 4 = t 111 4 := by
    unfold ln1; split
    · exact e14
    · rw [bl_k (by decide) (by decide)]; exact e14
  obtain ⟨S2, A2⟩ := A
  have B : SY (ln2 (ln1 s)) (lg3 t i) ∧ (lg3 t i 111 5 = 0 → lg2 t i 111 5 = 0 ∧ i < 12) := by
    by_cases hi : i < 12
    · have e : ln2 (ln1 s) = ln1 s := by
        unfold ln2; rw [if_pos]; rw [o1 71 (by decide), d1]; exact nI_ltz hi (by decide)
      have e2 : lg3 t i = lg2 t i := by
        unfold lg3; rw [if_neg]; intro z
        have := nI_inj (b := 12) (by omega) (by omega) z.2; omega
      rw [e, e2]; exact ⟨S2, fun z => ⟨z, hi⟩⟩
    · have hi2 : i = 12 := by omega
      have e : ln2 (ln1 s) = bl (ln1 s) 3 (t 111 4) := by
        unfold ln2; rw [if_neg, k14]; rw [o1 71 (by decide), d1, hi2]; decide
      have e2 : lg3 t i = wr (lg2 t i) 3 (t 111 4) := by
        unfold lg3
        by_cases z : lg2 t i 111 5 = 0
        · rw [if_pos ⟨z, by rw [hi2]; rfl⟩]
        · rw [if_neg (fun y => z y.1), wr_same z]
      rw [e, e2]; exact ⟨S2.ywr (by decide), fun y => absurd y (wr_5 (by decide))⟩
  have o2 : ∀ o, o ≠ 1 → ln2 (ln1 s) o = s o := fun o a => by
    unfold ln2; split
    · exact o1 o a
    · rw [bl_o a]; exact o1 o a
  obtain ⟨S3, B3⟩ := B
  obtain ⟨S4, V4⟩ := S3.ynu (lo := 0) (hi := 1) (by decide) (by decide)
  have r1 : ∀ o, o ≠ 73 → ln3 (ln2 (ln1 s)) (nuV (nu1 s)) o = nuS (ln2 (ln1 s)) 0 1 o := fun o a => by unfold ln3; exact rs_o (o := 72) a
  have S5 : SY (ln3 (ln2 (ln1 s)) (nuV (nu1 s))) (mnS (lg3 t i) 0 1) := S4.cl (by rw [r1 1 (by decide)]) (by rw [r1 1 (by decide)]) (by rw [r1 1 (by decide)]) (by rw [r1 1 (by decide)]) (r1 3 (by decide))
  have S6 : SY (tkR (ln3 (ln2 (ln1 s)) (nuV (nu1 s))) 59) (lg5 t i) := S5.ysg (c := 59) (by decide)
  have el : lnS s = up (tkR (ln3 (ln2 (ln1 s)) (nuV (nu1 s))) 59) 71 1 ((tkR (ln3 (ln2 (ln1 s)) (nuV (nu1 s))) 59) 71 1 + 1) := rfl
  have S7 : SY (lnS s) (lg5 t i) := by
    rw [el]
    exact S6.cl (by rw [up_o (by decide)]) (by rw [up_o (by decide)]) (by rw [up_o (by decide)]) (by rw [up_o (by decide)]) (up_o (by decide))
  by_cases f5 : lg5 t i 111 5 = 0
  · have e6 : lg6 t i = up (up (lg5 t i) (499 + i) 0 (mnV t 0 59)) (499 + i) 1 (mnV (lg3 t i) 0 1) := by unfold lg6; exact if_pos f5
    have S8 : SY (lnS s) (lg6 t i) := by
      rw [e6]
      exact S7.cr (by rw [up_o (by omega), up_o (by omega)]) (by rw [up_o (by omega), up_o (by omega)]) (by rw [up_o (by omega), up_o (by omega)]) (by rw [up_o (by omega), up_o (by omega)]) (by rw [up_o (by omega), up_o (by omega)])
    refine ⟨S8, fun _ => ⟨?_, by unfold mlgN; exact if_pos f5⟩⟩
    have g3 : mnS (lg3 t i) 0 1 111 5 = 0 := ((okr_sg (c := 59) (okr_nu (lo := 0) (hi := 1) (lg3_l h.1).1).1 (by decide)).2.2 f5).1
    have g2 : lg3 t i 111 5 = 0 := mnS_5 (lg3_l h.1).1 g3
    obtain ⟨g1, hi⟩ := B3 g2
    obtain ⟨g0, hn⟩ := A2 g1
    obtain ⟨m, hm, em, ev⟩ := rngm g0
    obtain ⟨b1, b2', b3⟩ := V4 g3
    have hb : mnV (lg3 t i) 0 1 = 0 ∨ mnV (lg3 t i) 0 1 = 1 := by
      rw [i_le] at b2' b3; rw [i_eq, i_eq]
      have z0 : (0 : Int32).toInt = 0 := rfl
      have z1 : (1 : Int32).toInt = 1 := rfl
      omega
    have e71 : lnS s 71 1 = nI (i + 1) := by
      rw [el, up_rd, tkR_o (by decide), r1 71 (by decide), nuS_o (by decide), o2 71 (by decide), d1, nI_s]
    have c73 : lnS s 73 = upd (s 73) m (mnV (lg3 t i) 0 1 + 1) := by
      rw [el, up_o (by decide), tkR_o (by decide)]
      unfold ln3
      have ev2 : ∀ y : Int32, y = 0 ∨ y = 1 → (if y = 0 then (1 : Int32) else 2) = y + 1 := fun y hy => by rcases hy with z | z <;> subst z <;> decide
      rw [ev, rs_nI hm (by decide), up_row, nuS_o (by decide), o2 73 (by decide), b1, ev2 _ hb]
    refine ⟨e71, by omega, fun k hk => ?_, fun m' hm' => ?_⟩
    · by_cases q : k = i
      · subst q
        refine ⟨m, hm, ?_, ?_, ?_⟩
        · rw [e6, up_k (by decide), up_rd, em]
        · rw [e6, up_rd]; exact hb
        · rw [c73, e6, up_rd, ud_r]
      · obtain ⟨m', hm', a, b, c⟩ := d3 k (by omega)
        have ek : lg6 t i (499 + k) = t (499 + k) := lg6_o (by omega) (by omega)
        refine ⟨m', hm', by rw [ek]; exact a, by rw [ek]; exact b, ?_⟩
        have hne : m' ≠ m := fun y => hn k (by omega) (by rw [a, em, y])
        rw [c73, ud_k hne, ek]; exact c
    · by_cases q : m' = m
      · subst q
        exact Or.inr ⟨i, by omega, by rw [e6, up_k (by decide), up_rd, em]⟩
      · rw [c73, ud_k q]
        rcases d4 m' hm' with y | ⟨k, hk, y⟩
        · exact Or.inl y
        · exact Or.inr ⟨k, by omega, by rw [lg6_o (by omega) (by omega)]; exact y⟩
  · have e6 : lg6 t i = lg5 t i := by unfold lg6; exact if_neg f5
    rw [e6]
    exact ⟨S7, fun y => absurd y f5⟩
theorem lgR_go2 {m : Nat} {s : St} (h1 : s 1 5 = 0) (h2 : ¬ s 1 2 ≤ s 1 3) : lgR (m + 1) s = lgR m (lnS s) := by
  rw [lgR, if_neg (fun z => z.elim (fun q => b2_z q h1) (fun q => q (b2_f h2)))]
theorem lgR_stop2 {m : Nat} {s : St} (h : ¬ s 1 5 = 0 ∨ s 1 2 ≤ s 1 3) : lgR m s = s := by
  cases m with
  | zero => rfl
  | succ m =>
    rw [lgR, if_pos]
    rcases h with z | z
    · exact Or.inl (b2_f z)
    · exact Or.inr (fun q => b2_z q z)
theorem lg_loop : ∀ (m i : Nat) (s t : St) (N : Nat), i + m = 13 → SY s t → (t 111 5 = 0 → DG s t i) → mbl t = t → (t 111 5 = 0 → (t 111 2).toInt - (t 111 4).toInt < N) → SY (lgR m s) (mlgR N t i).1 ∧ ((mlgR N t i).1 111 5 = 0 → DG (lgR m s) (mlgR N t i).1 (mlgR N t i).2) := by
  intro m
  induction m with
  | zero =>
    intro i s t N ha h hD hN hf
    have h5 : ¬ t 111 5 = 0 := fun z => by have := (hD z).2.1; omega
    rw [mlgR_stop (fun z => h5 z.1)]
    exact ⟨h, fun z => absurd z h5⟩
  | succ m ih =>
    intro i s t N ha h hD hN hf
    by_cases h5 : t 111 5 = 0
    · have hs5 : s 1 5 = 0 := h.2.2.2.1.trans h5
      have ep : s 1 3 = t 111 4 := (h.pl h5).1.trans (nb_at hN)
      by_cases he : t 111 4 < t 111 2
      · obtain ⟨e, hN0, -, k3⟩ := mlgR_go (i := i) h.1 hf ⟨h5, he⟩
        rw [e, lgR_go2 hs5 (by rw [ep, h.2.1]; exact i_lle he)]
        obtain ⟨S, T⟩ := lg_step h h5 hN (hD h5)
        by_cases z : lg6 t i 111 5 = 0
        · obtain ⟨T1, T2⟩ := T z
          rw [T2]
          refine ih (i + 1) _ _ (N - 1) (by omega) S.ybl (fun _ => ?_) mbl_i k3
          obtain ⟨t1, t2, t3, t4⟩ := T1
          refine ⟨t1, t2, fun k hk => ?_, fun x hx => ?_⟩
          · rw [mbl_o (by omega)]; exact t3 k hk
          · rcases t4 x hx with y | ⟨k, hk, y⟩
            · exact Or.inl y
            · exact Or.inr ⟨k, hk, by rw [mbl_o (by omega)]; exact y⟩
        · have z' : ¬ mbl (lg6 t i) 111 5 = 0 := by rw [mbl_k (by decide)]; exact z
          rw [mlgR_stop (fun y => z' y.1), lgR_stop2 (Or.inl (fun y => z (S.2.2.2.1.symm.trans y)))]
          exact ⟨S.ybl, fun y => absurd y z'⟩
      · rw [lgR_stop2 (Or.inr (by rw [ep, h.2.1]; exact i_nlt he)), mlgR_stop (fun z => he z.2)]
        exact ⟨h, hD⟩
    · rw [lgR_stop2 (Or.inl (fun z => h5 (h.2.2.2.1.symm.trans z))), mlgR_stop (fun z => h5 z.1)]
      exact ⟨h, hD⟩
theorem lg_read {σ τ : St} {n : Int32} (hb : σ 3 = τ 112) (h0 : 0 ≤ n.toInt) (h1 : n.toInt ≤ 100) : SY (xg1 σ n) (mlgF τ n).1 ∧ ((mlgF τ n).1 111 5 = 0 → DG (xg1 σ n) (mlgF τ n).1 (mlgF τ n).2) := by
  have hS : SY (opn σ n) (mst (t0 τ) n) := SY.yop (by rw [hb]; unfold t0; rw [up_o (by decide)]) h0 (by omega)
  have S0 : SY (lg0 (opn σ n)) (mst (t0 τ) n) := by
    unfold lg0
    exact hS.cl (by rw [up_o (by decide), fl_o (by decide)]) (by rw [up_o (by decide), fl_o (by decide)]) (by rw [up_o (by decide), fl_o (by decide)]) (by rw [up_o (by decide), fl_o (by decide)]) (by rw [up_o (by decide), fl_o (by decide)])
  have hD : DG (lg0 (opn σ n)) (mst (t0 τ) n) 0 := by
    refine ⟨by unfold lg0; rw [up_rd]; rfl, by decide, fun k hk => absurd hk (Nat.not_lt_zero k), fun m hm => Or.inl ?_⟩
    unfold lg0; rw [up_o (by decide), fl_in hm]
  exact lg_loop 13 0 _ _ 101 rfl S0 (fun _ => hD) (by unfold mst; exact mbl_i) (fun _ => by
    have := S0.1.1; rw [mst_2]; show _ < ((101 : Nat) : Int); omega)
