theorem xc2_e {s : St} : (∀ o, 4 ≤ o → o < 27 → xc2 s o = bcS s o) ∧ (xc2 s 50 4 = 3 ∧ xc2 s 52 0 = 0 ∧ xc2 s 52 1 = 11 ∧ xc2 s 54 1 = 1 ∧ xc2 s 52 2 = 13) ∧ (xc2 s 68 1 = 0 ∧ ∀ k, k < 60 → xc2 s 70 k = 0) ∧ (xc2 s 102 3 = 0 ∧ xc2 s 102 4 = 0) ∧
    (ct (s 29 2) ≤ 3 → ∀ k, k < 29 → xc2 s 83 k = if k = 6 then 1 <<< (s 29 1 &&& 31) - 1 else if 8 ≤ k ∧ k < 8 + ct (s 29 2) then s 37 (k - 8) else 0) ∧ (xc2 s 0 14 = 0 ∧ ∀ k, k ≠ 14 → xc2 s 0 k = s 0 k) ∧ ∀ o, ((1 ≤ o ∧ o < 4) ∨ 111 ≤ o) → xc2 s o = s o := by
  obtain ⟨l1, l2⟩ := lrs_e (s := bcS s)
  have g : ∀ o, o ≠ 68 → o ≠ 70 → o ≠ 102 → hiz (lgz (lrs (bcS s) 50)) o = lrs (bcS s) 50 o := fun o a b c => by unfold hiz lgz; rw [up_o c, up_o c, up_o a, fl_o b]
  have gz : ∀ o, o ≠ 83 → niz (hiz (lgz (lrs (bcS s) 50))) o = hiz (lgz (lrs (bcS s) 50)) o := fun o a => by unfold niz; exact nrs_o a
  have x : ∀ o, o ≠ 0 → xc2 s o = niz (hiz (lgz (lrs (bcS s) 50))) o := fun o a => by unfold xc2; exact up_o a
  have c6 : hiz (lgz (lrs (bcS s) 50)) 6 = bcS s 6 := by rw [g 6 (by decide) (by decide) (by decide), l2 6 (by decide) (by decide) (by decide)]
  have c14 : hiz (lgz (lrs (bcS s) 50)) 14 = bcS s 14 := by rw [g 14 (by decide) (by decide) (by decide), l2 14 (by decide) (by decide) (by decide)]
  have m1 : cM (hiz (lgz (lrs (bcS s) 50))) 1 = s 29 1 := by
    unfold cM; rw [c6, show (1 : Int32) = nI 1 from rfl, rg_nI (by decide) (by decide), bc_6 (by decide)]
  have m2 : cM (hiz (lgz (lrs (bcS s) 50))) 2 = s 29 2 := by
    unfold cM; rw [c6, show (2 : Int32) = nI 2 from rfl, rg_nI (by decide) (by decide), bc_6 (by decide)]
  refine ⟨fun o a b => ?_, ⟨?_, ?_, ?_, ?_, ?_⟩, ⟨?_, fun k hk => ?_⟩, ⟨?_, ?_⟩, fun hn k hk => ?_, ⟨?_, fun k hk => ?_⟩, fun o ho => ?_⟩
  · rw [x o (by omega), gz o (by omega), g o (by omega) (by omega) (by omega), l2 o (by omega) (by omega) (by omega)]
  · rw [x 50 (by decide), gz 50 (by decide), g 50 (by decide) (by decide) (by decide)]; exact l1.1
  · rw [x 52 (by decide), gz 52 (by decide), g 52 (by decide) (by decide) (by decide)]; exact l1.2.1
  · rw [x 52 (by decide), gz 52 (by decide), g 52 (by decide) (by decide) (by decide)]; exact l1.2.2.1
  · rw [x 54 (by decide), gz 54 (by decide), g 54 (by decide) (by decide) (by decide)]; exact l1.2.2.2.1
  · rw [x 52 (by decide), gz 52 (by decide), g 52 (by decide) (by decide) (by decide)]; exact l1.2.2.2.2
  · rw [x 68 (by decide), gz 68 (by decide)]; unfold hiz lgz; rw [up_o (by decide), up_o (by decide), up_rd]
  · rw [x 70 (by decide), gz 70 (by decide)]; unfold hiz lgz; rw [up_o (by decide), up_o (by decide), up_o (by decide), fl_in hk]
  · rw [x 102 (by decide), gz 102 (by decide)]; unfold hiz; rw [up_k (by decide), up_rd]
  · rw [x 102 (by decide), gz 102 (by decide)]; unfold hiz; rw [up_rd]
  · rw [x 83 (by decide)]; unfold niz
    rw [m2, nrs_row _ hn k hk, m1]
    by_cases z : k = 6
    · rw [if_pos z, if_pos z]
    · rw [if_neg z, if_neg z]
      by_cases y : 8 ≤ k ∧ k < 8 + ct (s 29 2)
      · rw [if_pos y, if_pos y, c14, bc_14 (by omega)]
      · rw [if_neg y, if_neg y]
  · unfold xc2; rw [up_rd]
  · unfold xc2; rw [up_k hk, gz 0 (by decide), g 0 (by decide) (by decide) (by decide), l2 0 (by decide) (by decide) (by decide), bc_o (by decide)]
  · rw [x o (by omega), gz o (by omega), g o (by omega) (by omega) (by omega), l2 o (by omega) (by omega) (by omega), bc_o (by omega)]
theorem xc_hi {σ : St} {n : Int32} {o : Nat} (h : 111 ≤ o) : xcS σ n o = σ o := by
  unfold xcS; split
  · exact xc1_f.1 o (by omega) (by omega)
  · rw [xc2_e.2.2.2.2.2.2 o (Or.inr h)]; exact xc1_f.1 o (by omega) (by omega)
/-- RC after a coast -/
theorem RC_new {s1 t r : St} (D : DR s1 t) (c6 : ∀ k, k < 5 → r 6 k = s1 29 k) (c4 : r 4 11 = s1 27 11) (c8 : ∀ k, k < 12 → r 8 k = s1 31 k) (c26 : ∀ k, k < 6 → r 26 k = s1 49 k) (c10 : ∀ k, k < 6 → r 10 k = s1 33 k) (c12 : ∀ k, k < 6 → r 12 k = s1 35 k) (c14 : ∀ k, k < 3 → r 14 k = s1 37 k) (c16 : ∀ k, k < 3 → r 16 k = s1 39 k)
    (c18 : ∀ k, k < 6 → r 18 k = s1 41 k) (c20 : ∀ k, k < 6 → r 20 k = s1 43 k) (c22 : ∀ k, k < 6 → r 22 k = s1 45 k) (c24 : ∀ k, k < 6 → r 24 k = s1 47 k)
    (m115 : ∀ k, k < 6 → r 115 k = t 114 k) (m117 : ∀ c, c < nn t 0 → r 117 c = t 116 c) (m119 : ∀ c, c < nn t 4 → r 119 c = t 118 c) (ml : ∀ j k, j < nn t 1 → k < 2 → r (143 + j) k = t (137 + j) k) (md : ∀ j k, j < nn t 2 → k < 2 → r (152 + j) k = t (149 + j) k) (ms : ∀ j k, j < nn t 3 → k < 4 → r (161 + j) k = t (155 + j) k) :
    RC r ∧ (tl r 2 = 0 ∨ 0 < tl r 0) ∧ (∀ k, k < tl r 4 → 1 ≤ (r 119 k).toInt) ∧ C40 r := by
  obtain ⟨⟨q0, q1, q2, q3, q4⟩, cn, sg, sv, dn, a31, a33, a35, a37, a39, a41, a43, a45, a47, a49⟩ := D
  have eT : ∀ k, k < 6 → tl r k = nn t k := fun k hk => tl_nn (m115 k hk)
  have b0 : nn t 0 ≤ 12 := by unfold nn; omega
  have b1 : nn t 1 ≤ 6 := by unfold nn; omega
  have b2 : nn t 2 ≤ 3 := by unfold nn; omega
  have b3 : nn t 3 ≤ 6 := by unfold nn; omega
  have b4 : nn t 4 ≤ 6 := by unfold nn; omega
  refine ⟨⟨fun k hk => ?_, fun k hk => ?_, ?_, ?_, fun c hc => ?_, fun k hk => ?_, fun j hj => ?_, fun j hj => ?_, fun d hd => ?_, fun d hd => ?_, fun s hs => ?_⟩, ?_, fun k hk => ?_, fun i hi => ?_⟩
  · rw [c6 k hk, m115 k (by omega)]; exact cn k hk
  · rw [m115 k (by omega)]
    have : k = 0 ∨ k = 1 ∨ k = 2 ∨ k = 3 ∨ k = 4 := by omega
    rcases this with z | z | z | z | z <;> subst z
    · exact q0.1
    · exact q1.1
    · exact q2.1
    · exact q3.1
    · exact q4.1
  · rw [eT 0 (by decide), eT 1 (by decide), eT 2 (by decide), eT 3 (by decide), eT 4 (by decide)]; exact ⟨b0, b1, b2, b3, b4⟩
  · rw [c4, m115 5 (by decide)]; exact ⟨sv.1, sv.2.1, by omega⟩
  · rw [eT 0 (by decide)] at hc; have g := a31 c hc
    rw [c8 c (by omega), m117 c hc]; exact ⟨g.1, g.2.1, by omega⟩
  · rw [eT 4 (by decide)] at hk; have g := a49 k hk
    rw [c26 k (by omega), m119 k hk]; exact ⟨g.1, by omega, by omega⟩
  · rw [eT 1 (by decide)] at hj; have g := a33 j hj
    rw [c10 j (by omega), ml j 0 hj (by decide)]; exact g
  · rw [eT 1 (by decide)] at hj; have g := a35 j hj
    rw [c12 j (by omega), ml j 1 hj (by decide)]; exact g
  · rw [eT 2 (by decide)] at hd; have g := a37 d hd
    rw [c14 d (by omega), md d 0 hd (by decide)]; exact g
  · rw [eT 2 (by decide)] at hd; have g := a39 d hd
    rw [c16 d (by omega), md d 1 hd (by decide)]; exact g
  · rw [eT 3 (by decide)] at hs
    have g0 := a41 s hs
    have g1 := a43 s hs
    have g2 := a45 s hs
    have g3 := a47 s hs
    rw [c18 s (by omega), c20 s (by omega), c22 s (by omega), c24 s (by omega), ms s 0 hs (by decide), ms s 1 hs (by decide), ms s 2 hs (by decide), ms s 3 hs (by decide)]
    refine ⟨⟨g0.1, g1.1, g2.1, g3.1⟩, fun k hk => ?_⟩
    rw [ms s k hs hk]
    have : k = 0 ∨ k = 1 ∨ k = 2 ∨ k = 3 := by omega
    rcases this with z | z | z | z <;> subst z
    · exact ⟨g0.2.1, Int.le_trans g0.2.2 (by decide)⟩
    · exact ⟨g1.2.1, Int.le_trans g1.2.2 (by decide)⟩
    · exact ⟨g2.2.1, Int.le_trans g2.2.2 (by decide)⟩
    · exact ⟨g3.2.1, Int.le_trans g3.2.2 (by decide)⟩
  · rw [eT 2 (by decide), eT 0 (by decide)]; exact dn
  · rw [eT 4 (by decide)] at hk; rw [m119 k hk]; exact (a49 k hk).2.1
  · rw [eT 3 (by decide)] at hi; rw [ms i 0 hi (by decide)]; exact (a41 i hi).2.2
theorem RA_coast {σ : St} {n : Int32} (h : RA σ) (h0 : 0 ≤ n.toInt) (h1 : n.toInt ≤ 600) : RA (mcoS (xcS σ n) n) ∧ xcV σ n = mcoV (xcS σ n) n := by
  obtain ⟨hB, hX, hH, hQ⟩ := h
  have hb : σ 3 = (xcS σ n) 112 := by rw [xc_hi (by decide)]; exact hQ.1.2.2.2
  obtain ⟨S, D⟩ := co_read (σ := σ) (τ := xcS σ n) (n := n) hb h0 h1
  obtain ⟨fo, ff, f1⟩ := mcoF_f (τ := xcS σ n) (n := n)
  obtain ⟨xo, x11⟩ := xc1_f (σ := σ) (n := n)
  by_cases f : mcoF (xcS σ n) n 111 5 = 0
  · have D1 := D f
    have c5 : xc1 σ n 1 5 = 0 := S.2.2.2.1.trans f
    have c6 : xc1 σ n 1 6 = -1 := S.2.2.2.2.1.trans (S.2.2.2.2.2 f).2
    have eS : xcS σ n = xc2 (xc1 σ n) := by unfold xcS; exact if_neg (fun y => b2_z y c5)
    have eV : xcV σ n = rg ((xc2 (xc1 σ n)) 6) 6 3 := by unfold xcV; exact if_neg (fun y => b2_z y c5)
    have eM : mcoS (xcS σ n) n = baS (up (mcoF (xcS σ n) n) 111 3 (-1)) := by unfold mcoS; exact if_pos f
    have eW : mcoV (xcS σ n) n = baS (up (mcoF (xcS σ n) n) 111 3 (-1)) 115 3 := by unfold mcoV; exact if_pos f
    rw [eM, eV, eW]
    obtain ⟨k1, k2, k3, k4, k5, k6, k7⟩ := xc2_e (s := xc1 σ n)
    generalize ht : mcoF (xcS σ n) n = t at *
    have uo : ∀ o, o ≠ 111 → (up t 111 3 (-1)) o = t o := fun o a => up_o a
    have hrt : rtW ((up t 111 3 (-1)) 114) := by rw [uo 114 (by decide)]; exact D1.1
    have nu : ∀ k, nn (up t 111 3 (-1)) k = nn t k := fun k => by unfold nn; rw [uo 114 (by decide)]
    obtain ⟨⟨b1, b2', b3⟩, ⟨b4, b5', b6⟩, ⟨b7, b8⟩, b9, b10⟩ := ba_e (s := up t 111 3 (-1)) hrt
    generalize baS (up t 111 3 (-1)) = r at *
    rw [nu] at b2' b3 b4 b5' b6 b7
    have ro : ∀ o, o < 111 → r o = xc2 (xc1 σ n) o := fun o ho => by
      rw [b9 o (by omega) (by omega) (by omega) (by omega) (by omega) (by omega), uo o (by omega), fo o ⟨by omega, by omega, by omega, by omega, by omega, by omega, by omega⟩, eS]
    have rh : ∀ o, o ≠ 111 → o ≠ 115 → o ≠ 117 → o ≠ 119 → o ≠ 122 → (o < 143 ∨ 167 ≤ o) → oR o → 111 < o → r o = σ o := fun o a b c d e f g l => by
      rw [b9 o a b c d e f, uo o a, fo o g, eS, k7 o (Or.inr (by omega))]; exact xo o (by omega) (by omega)
    have rc : ∀ o, 4 ≤ o → o < 27 → r o = bcS (xc1 σ n) o := fun o a b => by rw [ro o (by omega)]; exact k1 o a b
    obtain ⟨C1, C2, C3, C4⟩ := RC_new (s1 := xc1 σ n) (t := t) (r := r) D1 (fun k hk => by rw [rc 6 (by decide) (by decide)]; exact bc_6 (by omega)) (by rw [rc 4 (by decide) (by decide)]; exact bc_sg) (fun k hk => by rw [rc 8 (by decide) (by decide)]; exact bc_8 hk) (fun k hk => by rw [rc 26 (by decide) (by decide)]; exact bc_26 hk) (fun k hk => by rw [rc 10 (by decide) (by decide)]; exact bc_10 hk) (fun k hk => by rw [rc 12 (by decide) (by decide)]; exact bc_12 hk) (fun k hk => by rw [rc 14 (by decide) (by decide)]; exact bc_14 hk) (fun k hk => by rw [rc 16 (by decide) (by decide)]; exact bc_16 hk)
      (fun k hk => by rw [rc 18 (by decide) (by decide)]; exact bc_18 hk) (fun k hk => by rw [rc 20 (by decide) (by decide)]; exact bc_20 hk) (fun k hk => by rw [rc 22 (by decide) (by decide)]; exact bc_22 hk) (fun k hk => by rw [rc 24 (by decide) (by decide)]; exact bc_24 hk)
      (fun k hk => by rw [b1 k hk, uo 114 (by decide)]) (fun c hc => by rw [b2' c hc, uo 116 (by decide)]) (fun c hc => by rw [b3 c hc, uo 118 (by decide)]) (fun j k hj hk => by rw [b4 j k hj hk, uo _ (by omega)]) (fun j k hj hk => by rw [b5' j k hj hk, uo _ (by omega)]) (fun j k hj hk => by rw [b6 j k hj hk, uo _ (by omega)])
    obtain ⟨r23, r37, r38, r39, r40⟩ := b8
    have hb3 := C1.b3
    have eT : ∀ k, k < 6 → tl r k = nn t k := fun k hk => tl_nn (by rw [b1 k hk, uo 114 (by decide)])
    have D2 := D1
    obtain ⟨w, cn, sg, sv, dn, a31, a33, a35, a37, a39, a41, a43, a45, a47, a49⟩ := D2
    have c292 : ct (xc1 σ n 29 2) = nn t 2 := by rw [cn 2 (by decide)]; rfl
    have n2 : nn t 2 ≤ 3 := by unfold rtW at w; unfold nn; omega
    refine ⟨⟨⟨C1, ?_, ?_, ?_, C2, C3, C4⟩, ?_, ?_, ?_⟩, ?_⟩
    · right
      rw [ro 50 (by decide), ro 52 (by decide), ro 54 (by decide)]
      exact ⟨r23, k2.1, k2.2.1, k2.2.2.1, k2.2.2.2.1, k2.2.2.2.2⟩
    · unfold lawOK; rw [r23]; exact ⟨by decide, fun k hk => absurd hk (Nat.not_lt_zero k)⟩
    · refine ⟨?_, ?_, fun k hk => ?_, fun m hm => Or.inl ?_⟩
      · rw [r37, ro 68 (by decide)]; exact k3.1
      · rw [r37]; decide
      · rw [r37] at hk; exact absurd hk (Nat.not_lt_zero k)
      · rw [ro 70 (by decide)]; exact k3.2 m hm
    · have f83 : ∀ k, k < 29 → r 83 k = if k = 6 then 1 <<< (t 114 1 &&& 31) - 1 else if 8 ≤ k ∧ k < 8 + nn t 2 then xc1 σ n 37 (k - 8) else 0 := fun k hk => by
        rw [ro 83 (by decide)]
        have := k5 (by rw [c292]; exact n2) k hk
        rw [c292, cn 1 (by decide)] at this; exact this
      have g122 : ∀ k, k < 31 → r 122 k = if k = 29 then -1 else if 1 ≤ k ∧ k < 1 + nn t 2 then t (149 + (k - 1)) 0 else if k = 0 then 1 <<< (t 114 1 &&& 31) - 1 else 0 := fun k hk => by
        have := b7 k hk; rw [uo 114 (by decide), uo (149 + (k - 1)) (by omega)] at this; exact this
      have fz : ∀ k, k < 29 → k ≠ 6 → (k < 8 ∨ 8 + nn t 2 ≤ k) → r 83 k = 0 := fun k a b c => by rw [f83 k a, if_neg b, if_neg (by omega)]
      have gz : ∀ k, k < 29 → 1 + nn t 2 ≤ k → r 122 k = 0 := fun k a b => by rw [g122 k (by omega), if_neg (by omega), if_neg (by omega), if_neg (by omega)]
      have g9 : r 122 29 = -1 := by rw [g122 29 (by decide), if_pos rfl]
      unfold RX
      rw [eT 2 (by decide), eT 3 (by decide), eT 0 (by decide)]
      have n3 : nn t 3 ≤ 6 := by unfold rtW at w; unfold nn; omega
      have n0 : nn t 0 ≤ 12 := by unfold rtW at w; unfold nn; omega
      refine ⟨⟨?_, ⟨?_, ?_⟩, ?_, ?_, ?_, ?_, ?_, ?_, fun d hd => ?_, fun x hx => ?_, fun x hx => ?_⟩, g9⟩
      · rw [fz 0 (by decide) (by decide) (by omega), gz 27 (by decide) (by omega)]
      · rw [fz 1 (by decide) (by decide) (by omega), gz 28 (by decide) (by omega)]
      · exact Or.inl (gz 28 (by decide) (by omega))
      · rw [fz 2 (by decide) (by decide) (by omega), gz 23 (by decide) (by omega)]
      · rw [fz 3 (by decide) (by decide) (by omega), gz 24 (by decide) (by omega)]
      · rw [fz 4 (by decide) (by decide) (by omega), gz 25 (by decide) (by omega)]
      · rw [fz 5 (by decide) (by decide) (by omega), gz 26 (by decide) (by omega)]
      · rw [f83 6 (by decide), if_pos rfl, g122 0 (by decide), if_neg (by decide), if_neg (by omega), if_pos rfl]
      · rw [fz 7 (by decide) (by decide) (by omega), gz 4 (by decide) (by omega)]
      · have g := a37 d hd
        rw [f83 (8 + d) (by omega), if_neg (by omega), if_pos (by omega), g122 (1 + d) (by omega), if_neg (by omega), if_pos (by omega), show 8 + d - 8 = d by omega, show 1 + d - 1 = d by omega]
        exact ⟨g.1, g.2.1, g.2.2⟩
      · rw [fz (11 + x) (by omega) (by omega) (by omega), gz (5 + x) (by omega) (by omega)]
      · rw [fz (17 + x) (by omega) (by omega) (by omega), gz (11 + x) (by omega) (by omega)]
    · refine ⟨⟨0, by decide, r38, ?_, fun k hk => absurd hk (Nat.not_lt_zero k)⟩, 0, by decide, r40, ?_, fun k hk => absurd hk (Nat.not_lt_zero k)⟩
      · rw [ro 102 (by decide)]; exact k4.1
      · rw [ro 102 (by decide)]; exact k4.2
    · have r3 : r 3 = σ 3 := by rw [ro 3 (by decide), k7 3 (by decide)]; exact xo 3 (by decide) (by decide)
      have r112 : r 112 = σ 112 := rh 112 (by decide) (by decide) (by decide) (by decide) (by decide) (by decide) (by decide) (by decide)
      have r113 : r 113 = σ 113 := rh 113 (by decide) (by decide) (by decide) (by decide) (by decide) (by decide) (by decide) (by decide)
      have m1 : r 111 1 = 0 := by rw [b10 1 (by decide) (by decide) (by decide) (by decide) (by decide), up_k (by decide)]; exact f1
      refine ⟨⟨?_, ?_, ?_, ?_⟩, ?_, ?_, ?_, ?_⟩
      · rw [m1, ro 1 (by decide), k7 1 (by decide)]; exact x11
      · rw [m1]; decide
      · rw [m1]; decide
      · rw [r3, r112]; exact hQ.1.2.2.2
      · rw [ro 1 (by decide), k7 1 (by decide), c6, b10 3 (by decide) (by decide) (by decide) (by decide) (by decide), up_rd]
      · rw [r39, ro 0 (by decide)]; exact k6.1
      · rw [ro 0 (by decide), k6.2 15 (by decide), xo 0 (by decide) (by decide), r113]; exact hQ.2.2.2.1
      · rw [ro 0 (by decide), k6.2 16 (by decide), xo 0 (by decide) (by decide), r113]; exact hQ.2.2.2.2
    · rw [b1 3 (by decide), uo 114 (by decide), k1 6 (by decide) (by decide), show (3 : Int32) = nI 3 from rfl, rg_nI (by decide) (by decide), bc_6 (by decide)]; exact cn 3 (by decide)
  · have c5 : ¬ xc1 σ n 1 5 = 0 := fun y => f (S.2.2.2.1.symm.trans y)
    have eS : xcS σ n = xc1 σ n := by unfold xcS; exact if_pos (b2_f c5)
    have eV : xcV σ n = xc1 σ n 1 5 - 10 := by unfold xcV; exact if_pos (b2_f c5)
    have eM : mcoS (xcS σ n) n = up (mcoF (xcS σ n) n) 111 3 (mcoF (xcS σ n) n 111 6) := by unfold mcoS; exact if_neg f
    have eW : mcoV (xcS σ n) n = mcoF (xcS σ n) n 111 5 - 10 := by unfold mcoV; exact if_neg f
    rw [eM, eV, eW, S.2.2.2.1]
    have c6 := S.2.2.2.2.1
    generalize mcoF (xcS σ n) n = t at *
    have ro : ∀ o, oR o → (o < 27 ∨ 50 ≤ o) → o ≠ 1 → up t 111 3 (t 111 6) o = σ o := fun o a b c => by rw [up_o a.1, fo o a, eS]; exact xo o c b
    have rf : ∀ f, fR f → f ≠ 0 → f ≠ 1 → f ≠ 2 → f ≠ 8 → f ≠ 3 → up t 111 3 (t 111 6) 111 f = σ 111 f := fun f a b c d e g => by rw [up_k g, ff f a b c d e, xc_hi (by decide)]
    have r1 : up t 111 3 (t 111 6) 1 = xc1 σ n 1 := by rw [up_o (by decide), fo 1 (by decide), eS]
    have hE : ∀ o, oB o → up t 111 3 (t 111 6) o = σ o := fun o ho => ro o ⟨by omega, by omega, by omega, by omega, by omega, by omega, by omega⟩ (by omega) (by omega)
    have hT := RB.t hE
    have hb := hB.c.b3
    obtain ⟨⟨w, hW⟩, i, hI⟩ := hH
    refine ⟨⟨RB_fr hB hE (by rw [ro 68 (by decide) (by decide) (by decide)]) (rf 23 (by decide) (by decide) (by decide) (by decide) (by decide) (by decide)) (rf 37 (by decide) (by decide) (by decide) (by decide) (by decide) (by decide)), ?_, ⟨⟨w, ?_⟩, i, ?_⟩, ?_⟩, rfl⟩
    · exact RX_eq hb hT (fun k _ => by rw [ro 83 (by decide) (by decide) (by decide)]) (fun k _ => by rw [ro 122 (by decide) (by decide) (by decide)]) hX
    · exact RHw_fr hb hT hW (rf 38 (by decide) (by decide) (by decide) (by decide) (by decide) (by decide)) (by rw [ro 102 (by decide) (by decide) (by decide)]) (ro 104 (by decide) (by decide) (by decide)) (fun k hk => ro (591 + k) ⟨by omega, by omega, by omega, by omega, by omega, by omega, by omega⟩ (by omega) (by omega))
    · exact RHi_fr hb hT hI (rf 40 (by decide) (by decide) (by decide) (by decide) (by decide) (by decide)) (by rw [ro 102 (by decide) (by decide) (by decide)]) (ro 106 (by decide) (by decide) (by decide)) (ro 108 (by decide) (by decide) (by decide)) (fun m hm => ro (607 + m) ⟨by omega, by omega, by omega, by omega, by omega, by omega, by omega⟩ (by omega) (by omega))
    · have m1 : up t 111 3 (t 111 6) 111 1 = 0 := by rw [up_k (by decide)]; exact f1
      refine ⟨⟨?_, ?_, ?_, ?_⟩, ?_, ?_, ?_, ?_⟩
      · rw [m1, r1]; exact x11
      · rw [m1]; decide
      · rw [m1]; decide
      · rw [ro 3 (by decide) (by decide) (by decide), ro 112 (by decide) (by decide) (by decide)]; exact hQ.1.2.2.2
      · rw [r1, c6, up_rd]
      · rw [ro 0 (by decide) (by decide) (by decide), rf 39 (by decide) (by decide) (by decide) (by decide) (by decide) (by decide)]; exact hQ.2.2.1
      · rw [ro 0 (by decide) (by decide) (by decide), ro 113 (by decide) (by decide) (by decide)]; exact hQ.2.2.2.1
      · rw [ro 0 (by decide) (by decide) (by decide), ro 113 (by decide) (by decide) (by decide)]; exact hQ.2.2.2.2
