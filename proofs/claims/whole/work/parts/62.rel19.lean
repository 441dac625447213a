/-! ===== a passing told in the row ===== -/
theorem i_arc (a b c : Int32) : a + b + c = a + c + b := by rw [Int32.add_assoc, Int32.add_comm b c, ← Int32.add_assoc]
def ad (f : Nat → Int32) (k : Nat) (v : Int32) : Nat → Int32 := upd f k (f k + v)
theorem ad_r {f : Nat → Int32} {k : Nat} {v : Int32} : ad f k v k = f k + v := if_pos rfl
theorem ad_k {f : Nat → Int32} {k j : Nat} {v : Int32} (h : j ≠ k) : ad f k v j = f j := if_neg h
theorem nad_row {s : St} {o k : Nat} {v : Int32} (hk : k < 29) : nad s o (nI k) v (o + 2) = ad (s (o + 2)) k v := by
  unfold nad; rw [rs_nI hk (by decide), rg_nI hk (by decide)]; exact up_row
theorem nst_row {s : St} {o k : Nat} {v : Int32} (hk : k < 29) : nst s o (nI k) v (o + 2) = upd (s (o + 2)) k v := by
  unfold nst; rw [rs_nI hk (by decide)]; exact up_row
theorem nad_o {s : St} {o q : Nat} {i v : Int32} (h : q ≠ o + 2) : nad s o i v q = s q := rs_o h
theorem nst_o {s : St} {o q : Nat} {i v : Int32} (h : q ≠ o + 2) : nst s o i v q = s q := rs_o h
theorem hp1_r {s : St} {o i : Nat} : hp1 s o (nI i) (o + 2) = upd (s (o + 2)) 7 (s (o + 2) 7 ||| (1 <<< (nI i &&& 31))) := by
  unfold hp1
  rw [show (7 : Int32) = nI 7 from rfl, nst_row (by decide)]
  show upd (s (o + 2)) 7 (rg (s (o + 2)) 29 (nI 7) ||| (1 <<< (nI i &&& 31))) = _
  rw [rg_nI (by decide) (by decide)]
theorem hp2_r {s : St} {o : Nat} {i w p : Int32} : hp2 s o i w p (o + 2) = ad (ad (s (o + 2)) 2 1) 3 p := by
  unfold hp2
  rw [show (3 : Int32) = nI 3 from rfl, nad_row (by decide), show (2 : Int32) = nI 2 from rfl, nad_row (by decide)]
theorem hp3_r {s : St} {o : Nat} {i w p : Int32} : hp3 s o i w p (o + 2) = ad (s (o + 2)) 4 (sC s i - p) := by
  unfold hp3
  rw [show (4 : Int32) = nI 4 from rfl, nad_row (by decide)]
theorem hp4_r {s : St} {o : Nat} {i w : Int32} : hp4 s o i w (o + 2) = ad (s (o + 2)) 5 (alv s i w) := by
  unfold hp4
  rw [show (5 : Int32) = nI 5 from rfl, nad_row (by decide)]
theorem hp5_r {s : St} {o i c : Nat} (hi : i < 6) (hc : c < 12) : hp5 s o (nI i) (nI c) (o + 2) = ad (ad (s (o + 2)) (11 + i) 1) (17 + c) 1 := by
  unfold hp5
  rw [show (11 : Int32) = nI 11 from rfl, znI_add (by omega), show (17 : Int32) = nI 17 from rfl, znI_add (by omega), nad_row (by omega), nad_row (by omega)]
theorem hp1_o {s : St} {o q : Nat} {i : Int32} (h : q ≠ o + 2) : hp1 s o i q = s q := by unfold hp1; exact nst_o h
theorem hp2_o {s : St} {o q : Nat} {i w p : Int32} (h : q ≠ o + 2) : hp2 s o i w p q = s q := by unfold hp2; rw [nad_o h, nad_o h]
theorem hp3_o {s : St} {o q : Nat} {i w p : Int32} (h : q ≠ o + 2) : hp3 s o i w p q = s q := by unfold hp3; rw [nad_o h]
theorem hp4_o {s : St} {o q : Nat} {i w : Int32} (h : q ≠ o + 2) : hp4 s o i w q = s q := by unfold hp4; rw [nad_o h]
theorem hp5_o {s : St} {o q : Nat} {i w : Int32} (h : q ≠ o + 2) : hp5 s o i w q = s q := by unfold hp5; rw [nad_o h, nad_o h]
theorem hps_o {s : St} {o q : Nat} {i w : Int32} (h : q ≠ o + 2) : hps s o i w q = s q := by
  unfold hps; split
  · exact hp1_o h
  · rw [hp5_o h, hp4_o h, hp3_o h, hp2_o h, hp1_o h]
theorem pcg_eq {s t : St} {a b : Int32} (h8 : t 8 = s 8) (h18 : t 18 = s 18) (h20 : t 20 = s 20) : pcg t a b = pcg s a b := by unfold pcg sW cR sC; rw [h8, h18, h20]
theorem alv_eq {s t : St} {a b : Int32} (h8 : t 8 = s 8) (h20 : t 20 = s 20) : alv t a b = alv s a b := by unfold alv sW cR; rw [h8, h20]
theorem sC_eq {s t : St} {a : Int32} (h18 : t 18 = s 18) : sC t a = sC s a := by unfold sC; rw [h18]
/-- the class's row after a wreck -/
def wkc (f : Nat → Int32) (i c : Nat) (p q a : Int32) : Nat → Int32 := ad (ad (ad (ad (ad (ad (upd f 7 (f 7 ||| (1 <<< (nI i &&& 31)))) 2 1) 3 p) 4 q) 5 a) (11 + i) 1) (17 + c) 1
/-- the reference's; x: parish or held -/
def wkm (g : Nat → Int32) (i c x : Nat) (a q : Int32) : Nat → Int32 := ad (ad (ad (ad (ad (upd g 4 (g 4 ||| (1 <<< (nI i &&& 31)))) (5 + i) 1) (11 + c) 1) 23 1) 26 a) x q
theorem hps_2 {s : St} {o i c : Nat} (ho : 27 ≤ o) (hi : i < 6) (hc : c < 12) : hps s o (nI i) (nI c) (o + 2) = wkc (s (o + 2)) i c (pcg s (nI i) (nI c)) (sC s (nI i) - pcg s (nI i) (nI c)) (alv s (nI i) (nI c)) := by
  have e1 : pcg (hp1 s o (nI i)) (nI i) (nI c) = pcg s (nI i) (nI c) := pcg_eq (hp1_o (by omega)) (hp1_o (by omega)) (hp1_o (by omega))
  unfold hps
  rw [if_neg (nI_ne (by omega)), e1, hp5_r hi hc, hp4_r, hp3_r, hp2_r, hp1_r]
  rw [alv_eq (s := s) ((hp3_o (by omega)).trans ((hp2_o (by omega)).trans (hp1_o (by omega)))) ((hp3_o (by omega)).trans ((hp2_o (by omega)).trans (hp1_o (by omega))))]
  rw [sC_eq (s := s) ((hp2_o (by omega)).trans (hp1_o (by omega)))]
  rfl
theorem hps_1 {s : St} {o i : Nat} : hps s o (nI i) (-1) (o + 2) = upd (s (o + 2)) 7 (s (o + 2) 7 ||| (1 <<< (nI i &&& 31))) := by
  unfold hps; rw [if_pos rfl, hp1_r]
/-! the reference's -/
def m1p (v : St) (o s : Nat) : St := up v o 4 (v o 4 ||| (1 <<< (nI s &&& 31)))
def mpT (v : St) (o s : Nat) : St := if m1p v o s 111 42 = -1 then m1p v o s else mp6 (mp5 (mp4 (mp3 (mp2 (m1p v o s) o s) o) o) o s) o s
theorem mpS_T {u : St} {o s : Nat} : mpS u o s = mpT (trF u o s) o s := rfl
theorem mal_eq {t v : St} {s : Nat} (h1 : t 111 42 = v 111 42) (h2 : t 117 = v 117) (h3 : t (161 + s) = v (161 + s)) : mal t s = mal v s := by unfold mal; rw [h1, h2, h3]
theorem mp6_o {t : St} {o s q : Nat} (h : q ≠ o) : mp6 t o s q = t q := by
  unfold mp6; split
  · exact up_o h
  · exact up_o h
theorem mpT_o {v : St} {o s q : Nat} (h : q ≠ o) : mpT v o s q = v q := by
  unfold mpT m1p; split
  · exact up_o h
  · rw [mp6_o h]; unfold mp5 mp4 mp3 mp2; rw [up_o h, up_o h, up_o h, up_o h, up_o h]
theorem mpT_1 {v : St} {o s : Nat} (ho : o ≠ 111) (h : v 111 42 = -1) : mpT v o s o = upd (v o) 4 (v o 4 ||| (1 <<< (nI s &&& 31))) := by
  unfold mpT
  rw [if_pos (show m1p v o s 111 42 = -1 by unfold m1p; rw [up_o (Ne.symm ho)]; exact h)]
  exact up_row
theorem mpT_2 {v : St} {o s c : Nat} (ho : o = 122 ∨ o = 123) (hs : s < 6) (hc : c < 12) (h : v 111 42 = nI c) : mpT v o s o = wkm (v o) s c (if mal v s = 0 then 24 else 25) (mal v s) (v (161 + s) 0) := by
  have e : ∀ q, q ≠ o → mp4 (mp3 (mp2 (m1p v o s) o s) o) o q = v q := fun q hq => by unfold mp4 mp3 mp2 m1p; rw [up_o hq, up_o hq, up_o hq, up_o hq]
  have e5 : ∀ q, q ≠ o → mp5 (mp4 (mp3 (mp2 (m1p v o s) o s) o) o) o s q = v q := fun q hq => by unfold mp5; rw [up_o hq]; exact e q hq
  have a4 : mal (mp4 (mp3 (mp2 (m1p v o s) o s) o) o) s = mal v s := mal_eq (by rw [e 111 (by omega)]) (e 117 (by omega)) (e (161 + s) (by omega))
  have a5 : mal (mp5 (mp4 (mp3 (mp2 (m1p v o s) o s) o) o) o s) s = mal v s := mal_eq (by rw [e5 111 (by omega)]) (e5 117 (by omega)) (e5 (161 + s) (by omega))
  have c1 : (mp2 (m1p v o s) o s 111 42).toInt.toNat = c := by
    unfold mp2 m1p; rw [up_o (by omega), up_o (by omega), h, i_nI (by omega)]; exact Int.toNat_natCast c
  have r : mp5 (mp4 (mp3 (mp2 (m1p v o s) o s) o) o) o s o = ad (ad (ad (ad (upd (v o) 4 (v o 4 ||| (1 <<< (nI s &&& 31)))) (5 + s) 1) (11 + c) 1) 23 1) 26 (mal v s) := by
    unfold mp5
    rw [up_row, a4]
    show ad (mp4 (mp3 (mp2 (m1p v o s) o s) o) o o) 26 (mal v s) = _
    have r4 : mp4 (mp3 (mp2 (m1p v o s) o s) o) o o = ad (mp3 (mp2 (m1p v o s) o s) o o) 23 1 := by unfold mp4; exact up_row
    have r3 : mp3 (mp2 (m1p v o s) o s) o o = ad (mp2 (m1p v o s) o s o) (11 + c) 1 := by unfold mp3; rw [c1]; exact up_row
    have r2 : mp2 (m1p v o s) o s o = ad (m1p v o s o) (5 + s) 1 := by unfold mp2; exact up_row
    have r1 : m1p v o s o = upd (v o) 4 (v o 4 ||| (1 <<< (nI s &&& 31))) := by unfold m1p; exact up_row
    rw [r4, r3, r2, r1]
  unfold mpT
  rw [if_neg (show ¬ m1p v o s 111 42 = -1 by unfold m1p; rw [up_o (by omega), h]; exact nI_ne (by omega))]
  unfold mp6
  rw [a5, e5 (161 + s) (by omega)]
  by_cases q : mal v s = 0
  · rw [if_pos q, if_pos q, up_row, r]; rfl
  · rw [if_neg q, if_neg q, up_row, r]; rfl

theorem wkc_e {f : Nat → Int32} {i c : Nat} {p q a : Int32} (hi : i < 6) (hc : c < 12) : (wkc f i c p q a 0 = f 0 ∧ wkc f i c p q a 1 = f 1 ∧ wkc f i c p q a 2 = f 2 + 1 ∧ wkc f i c p q a 3 = f 3 + p ∧ wkc f i c p q a 4 = f 4 + q ∧ wkc f i c p q a 5 = f 5 + a ∧ wkc f i c p q a 6 = f 6 ∧ wkc f i c p q a 7 = f 7 ||| (1 <<< (nI i &&& 31))) ∧ (∀ d, d < 3 → wkc f i c p q a (8 + d) = f (8 + d)) ∧ (∀ s, s < 6 → wkc f i c p q a (11 + s) = if s = i then f (11 + s) + 1 else f (11 + s)) ∧ (∀ x, x < 12 → wkc f i c p q a (17 + x) = if x = c then f (17 + x) + 1 else f (17 + x)) := by
  unfold wkc
  refine ⟨⟨?_, ?_, ?_, ?_, ?_, ?_, ?_, ?_⟩, fun d hd => ?_, fun s hs => ?_, fun x hx => ?_⟩
  · repeat (first | rw [ad_r] | rw [ad_k (by omega)] | rw [ud_r] | rw [ud_k (by omega)])
  · repeat (first | rw [ad_r] | rw [ad_k (by omega)] | rw [ud_r] | rw [ud_k (by omega)])
  · repeat (first | rw [ad_r] | rw [ad_k (by omega)] | rw [ud_r] | rw [ud_k (by omega)])
  · repeat (first | rw [ad_r] | rw [ad_k (by omega)] | rw [ud_r] | rw [ud_k (by omega)])
  · repeat (first | rw [ad_r] | rw [ad_k (by omega)] | rw [ud_r] | rw [ud_k (by omega)])
  · repeat (first | rw [ad_r] | rw [ad_k (by omega)] | rw [ud_r] | rw [ud_k (by omega)])
  · repeat (first | rw [ad_r] | rw [ad_k (by omega)] | rw [ud_r] | rw [ud_k (by omega)])
  · repeat (first | rw [ad_r] | rw [ad_k (by omega)] | rw [ud_r] | rw [ud_k (by omega)])
  · repeat (first | rw [ad_r] | rw [ad_k (by omega)] | rw [ud_r] | rw [ud_k (by omega)])
  · by_cases z : s = i
    · rw [if_pos z, z]; repeat (first | rw [ad_r] | rw [ad_k (by omega)] | rw [ud_r] | rw [ud_k (by omega)])
    · rw [if_neg z]; repeat (first | rw [ad_r] | rw [ad_k (by omega)] | rw [ud_r] | rw [ud_k (by omega)])
  · by_cases z : x = c
    · rw [if_pos z, z]; repeat (first | rw [ad_r] | rw [ad_k (by omega)] | rw [ud_r] | rw [ud_k (by omega)])
    · rw [if_neg z]; repeat (first | rw [ad_r] | rw [ad_k (by omega)] | rw [ud_r] | rw [ud_k (by omega)])
theorem wkm_e {g : Nat → Int32} {i c x : Nat} {a q : Int32} (hi : i < 6) (hc : c < 12) (hx : x = 24 ∨ x = 25) : (wkm g i c x a q 0 = g 0 ∧ wkm g i c x a q 4 = g 4 ||| (1 <<< (nI i &&& 31)) ∧ wkm g i c x a q 23 = g 23 + 1 ∧ wkm g i c x a q 26 = g 26 + a ∧ wkm g i c x a q 27 = g 27 ∧ wkm g i c x a q 28 = g 28 ∧ wkm g i c x a q 29 = g 29) ∧ (wkm g i c x a q 24 = (if x = 24 then g 24 + q else g 24)) ∧ (wkm g i c x a q 25 = (if x = 24 then g 25 else g 25 + q)) ∧ (∀ d, d < 3 → wkm g i c x a q (1 + d) = g (1 + d)) ∧ (∀ s, s < 6 → wkm g i c x a q (5 + s) = if s = i then g (5 + s) + 1 else g (5 + s)) ∧ (∀ y, y < 12 → wkm g i c x a q (11 + y) = if y = c then g (11 + y) + 1 else g (11 + y)) := by
  unfold wkm
  refine ⟨⟨?_, ?_, ?_, ?_, ?_, ?_, ?_⟩, ?_, ?_, fun d hd => ?_, fun s hs => ?_, fun y hy => ?_⟩
  · repeat (first | rw [ad_r] | rw [ad_k (by omega)] | rw [ud_r] | rw [ud_k (by omega)])
  · repeat (first | rw [ad_r] | rw [ad_k (by omega)] | rw [ud_r] | rw [ud_k (by omega)])
  · repeat (first | rw [ad_r] | rw [ad_k (by omega)] | rw [ud_r] | rw [ud_k (by omega)])
  · repeat (first | rw [ad_r] | rw [ad_k (by omega)] | rw [ud_r] | rw [ud_k (by omega)])
  · repeat (first | rw [ad_r] | rw [ad_k (by omega)] | rw [ud_r] | rw [ud_k (by omega)])
  · repeat (first | rw [ad_r] | rw [ad_k (by omega)] | rw [ud_r] | rw [ud_k (by omega)])
  · repeat (first | rw [ad_r] | rw [ad_k (by omega)] | rw [ud_r] | rw [ud_k (by omega)])
  · rcases hx with z | z
    · subst z; rw [if_pos rfl]; repeat (first | rw [ad_r] | rw [ad_k (by omega)] | rw [ud_r] | rw [ud_k (by omega)])
    · subst z; rw [if_neg (by decide)]; repeat (first | rw [ad_r] | rw [ad_k (by omega)] | rw [ud_r] | rw [ud_k (by omega)])
  · rcases hx with z | z
    · subst z; rw [if_pos rfl]; repeat (first | rw [ad_r] | rw [ad_k (by omega)] | rw [ud_r] | rw [ud_k (by omega)])
    · subst z; rw [if_neg (by decide)]; repeat (first | rw [ad_r] | rw [ad_k (by omega)] | rw [ud_r] | rw [ud_k (by omega)])
  · repeat (first | rw [ad_r] | rw [ad_k (by omega)] | rw [ud_r] | rw [ud_k (by omega)])
  · by_cases z : s = i
    · rw [if_pos z, z]; repeat (first | rw [ad_r] | rw [ad_k (by omega)] | rw [ud_r] | rw [ud_k (by omega)])
    · rw [if_neg z]; repeat (first | rw [ad_r] | rw [ad_k (by omega)] | rw [ud_r] | rw [ud_k (by omega)])
  · by_cases z : y = c
    · rw [if_pos z, z]; repeat (first | rw [ad_r] | rw [ad_k (by omega)] | rw [ud_r] | rw [ud_k (by omega)])
    · rw [if_neg z]; repeat (first | rw [ad_r] | rw [ad_k (by omega)] | rw [ud_r] | rw [ud_k (by omega)])
theorem rk_pass {s v : St} {K : Nat → Int32} {nd ns nc o ro i : Nat} {w : Int32} (ho : 27 ≤ o) (hro : ro = 122 ∨ ro = 123) (hi : i < 6) (hd : nd ≤ 3) (hns : ns ≤ 6) (hnc : nc ≤ 12) (hw : w = v 111 42) (h42 : v 111 42 = -1 ∨ ∃ c, c < 12 ∧ v 111 42 = nI c)
    (hal : alv s (nI i) w = mal v i) (hpc : pcg s (nI i) w = mpa v i) (hsc : sC s (nI i) = v (161 + i) 0) (hR : RK2 K nd ns nc (s (o + 2)) (v ro)) : RK2 K nd ns nc (hps s o (nI i) w (o + 2)) (mpT v ro i ro) := by
  obtain ⟨r0, r1, r2, r3, r4, r5, r6, r7, rd, rt, rc, r29⟩ := hR
  subst hw
  rcases h42 with z | ⟨c, hc, z⟩
  · rw [mpT_1 (by omega) z, z, hps_1]
    refine ⟨?_, ?_, ?_, ?_, ?_, ?_, ?_, ?_, fun d hd2 => ?_, fun x hx => ?_, fun x hx => ?_, ?_⟩
    · rw [ud_k (by decide), ud_k (by decide)]; exact r0
    · rw [ud_k (by decide), ud_k (by decide)]; exact r1
    · rw [ud_k (by decide), ud_k (by decide)]; exact r2
    · rw [ud_k (by decide), ud_k (by decide)]; exact r3
    · rw [ud_k (by decide), ud_k (by decide)]; exact r4
    · rw [ud_k (by decide), ud_k (by decide)]; exact r5
    · rw [ud_k (by decide), ud_k (by decide)]; exact r6
    · rw [ud_r, ud_r, r7]
    · rw [ud_k (by omega), ud_k (by omega)]; exact rd d hd2
    · rw [ud_k (by omega), ud_k (by omega)]; exact rt x hx
    · rw [ud_k (by omega), ud_k (by omega)]; exact rc x hx
    · rw [ud_k (by decide)]; exact r29
  · rw [z] at hal hpc
    rw [mpT_2 hro hi hc z, z, hps_2 ho hi hc, hal, hpc, hsc]
    obtain ⟨⟨c0, c1, c2, c3, c4, c5, c6, c7⟩, cd, cs, cc⟩ := wkc_e (f := s (o + 2)) (p := mpa v i) (q := v (161 + i) 0 - mpa v i) (a := mal v i) hi hc
    obtain ⟨⟨m0, m4, m23, m26, m27, m28, m29⟩, m24, m25, md, ms, mc⟩ := wkm_e (g := v ro) (x := if mal v i = 0 then 24 else 25) (a := mal v i) (q := v (161 + i) 0) hi hc (by split <;> omega)
    have ep : mpa v i = if mal v i = 0 then v (161 + i) 0 else 0 := by
      unfold mpa
      by_cases q : mal v i = 0
      · rw [if_pos ⟨by rw [z]; exact nI_ne (by omega), q⟩, if_pos q]
      · rw [if_neg (fun y => q y.2), if_neg q]
    refine ⟨?_, ?_, ?_, ?_, ?_, ?_, ?_, ?_, fun d hd2 => ?_, fun x hx => ?_, fun x hx => ?_, ?_⟩
    · rw [c0, m27]; exact r0
    · rw [c1, m28]; exact r1
    · rw [c2, m23, ← r2, i_arc]
    · rw [c3, m24, ep]
      by_cases q : mal v i = 0
      · rw [if_pos q, if_pos q, if_pos rfl, ← r3, i_arc]
      · rw [if_neg q, if_neg q, if_neg (by decide), ← r3, Int32.add_zero]
    · rw [c4, m25, ep]
      by_cases q : mal v i = 0
      · rw [if_pos q, if_pos q, if_pos rfl, ← r4, Int32.sub_self, Int32.add_zero]
      · rw [if_neg q, if_neg q, if_neg (by decide), ← r4, Int32.sub_zero, i_arc]
    · rw [c5, m26, ← r5, i_arc]
    · rw [c6, m0]; exact r6
    · rw [c7, m4, r7]
    · rw [cd d (by omega), md d (by omega)]; exact rd d hd2
    · rw [cs x (by omega), ms x (by omega), rt x hx]
    · rw [cc x (by omega), mc x (by omega), rc x hx]
    · rw [m29]; exact r29
theorem mbS_f {t : St} {k : Nat} : mbS t 111 k = t 111 k := by
  unfold mbS; split
  · rfl
  · rw [mlR_o (by decide)]
theorem kn_f {t : St} {s k : Nat} {a b c d e f : Int32} : knS t s a b c d e f 111 k = t 111 k := by
  unfold knS kn2 kn1
  rw [up_o (by decide), up_o (by decide), up_o (by decide), up_o (by decide), up_o (by decide), up_o (by decide), up_o (by decide), up_o (by decide), up_o (by decide)]
theorem trS_f {t : St} {o s m k : Nat} {la : Int32} (h : 46 ≤ k) : trS t o s m la 111 k = t 111 k := by
  have e3 : tr3 t o s m la 111 k = t 111 k := by
    unfold tr3; rw [kn_f]; unfold tr2 tr1; rw [up_k (by omega), up_k (by omega)]
  unfold trS; split
  · rw [mbS_f, e3]
  · unfold tr4; rw [up_k (by omega), up_k (by omega), mbS_f, e3]
theorem trR_f {o s k : Nat} (h : 46 ≤ k) : ∀ (n m : Nat) (la : Int32) (t : St), trR o s n m la t 111 k = t 111 k := by
  intro n
  induction n with
  | zero => intro m la t; rfl
  | succ n ih =>
    intro m la t
    rw [trR]; split
    · rfl
    · rw [ih, trS_f h]
theorem trF_f {t : St} {o s k : Nat} (h : 46 ≤ k) : trF t o s 111 k = t 111 k := by
  unfold trF tr0; rw [trR_f h, up_k (by omega), up_k (by omega), up_k (by omega), up_k (by omega)]
