/-! ===== what keeps the two sides alike; the tape is fed; the small answers ===== -/
/-- objects that the relation speaks of wholly -/
abbrev oA (o : Nat) : Prop := oB o ∨ o = 83 ∨ o = 122 ∨ o = 104 ∨ o = 106 ∨ o = 108 ∨ (591 ≤ o ∧ o < 610)
theorem RA_fr {σ τ : St} (h : RA σ) (hE : ∀ o, oA o → τ o = σ o) (h68 : τ 68 1 = σ 68 1) (h3 : τ 102 3 = σ 102 3) (h4 : τ 102 4 = σ 102 4) (hf : ∀ f, f = 23 ∨ f = 37 ∨ f = 38 ∨ f = 40 → τ 111 f = σ 111 f) (hQ : RQ τ) : RA τ := by
  obtain ⟨hB, hX, ⟨⟨w, hW⟩, i, hI⟩, -⟩ := h
  have hEB : ∀ o, oB o → τ o = σ o := fun o ho => hE o (Or.inl ho)
  have hT := RB.t hEB
  have hb := hB.c.b3
  refine ⟨RB_fr hB hEB h68 (hf 23 (by decide)) (hf 37 (by decide)), ?_, ⟨⟨w, ?_⟩, i, ?_⟩, hQ⟩
  · exact RX_eq hb hT (fun k _ => by rw [hE 83 (by decide)]) (fun k _ => by rw [hE 122 (by decide)]) hX
  · exact RHw_fr hb hT hW (hf 38 (by decide)) h3 (hE 104 (by decide)) (fun k hk => hE (591 + k) (by omega))
  · exact RHi_fr hb hT hI (hf 40 (by decide)) h4 (hE 106 (by decide)) (hE 108 (by decide)) (fun m hm => hE (607 + m) (by omega))
/-- only what is not looked at has changed -/
theorem RA_sc {σ τ : St} (h : RA σ) (hE : ∀ o, oA o → τ o = σ o) (h0 : τ 0 = σ 0) (h1 : τ 1 = σ 1) (h3 : τ 3 = σ 3) (h68 : τ 68 = σ 68) (h102 : τ 102 = σ 102) (h112 : τ 112 = σ 112) (h113 : τ 113 = σ 113) (hf : ∀ f, 0 < f → f < 41 → τ 111 f = σ 111 f) : RA τ :=
  RA_fr h hE (by rw [h68]) (by rw [h102]) (by rw [h102]) (fun f hf2 => hf f (by omega) (by omega)) (RQ_fr h.2.2.2 (by rw [h1]) (by rw [h1]) h3 h112 (hf 1 (by decide) (by decide)) (hf 3 (by decide) (by decide)) h113 (by rw [h0]) (by rw [h0]) (by rw [h0, hf 39 (by decide) (by decide)]; exact h.2.2.2.2.2.1))
/-- refused on both sides: once more of the kind -/
theorem RA_ref {σ τ : St} (h : RA σ) (hE : ∀ o, oA o → τ o = σ o) (h1 : τ 1 = σ 1) (h3 : τ 3 = σ 3) (h68 : τ 68 = σ 68) (h102 : τ 102 = σ 102) (h112 : τ 112 = σ 112) (hf : ∀ f, 0 < f → f < 41 → τ 111 f = σ 111 f) (h14 : τ 0 14 = σ 0 14)
    (hr : (τ 0 15 = σ 0 15 + 1 ∧ τ 0 16 = σ 0 16 ∧ τ 113 0 = σ 113 0 + 1 ∧ τ 113 1 = σ 113 1) ∨ (τ 0 15 = σ 0 15 ∧ τ 0 16 = σ 0 16 + 1 ∧ τ 113 0 = σ 113 0 ∧ τ 113 1 = σ 113 1 + 1)) : RA τ := by
  obtain ⟨⟨q1, q2, q3, q4⟩, q5, q6, q7, q8⟩ := h.2.2.2
  refine RA_fr h hE (by rw [h68]) (by rw [h102]) (by rw [h102]) (fun f hf2 => hf f (by omega) (by omega)) ⟨⟨by rw [h1, hf 1 (by decide) (by decide)]; exact q1, by rw [hf 1 (by decide) (by decide)]; exact q2, by rw [hf 1 (by decide) (by decide)]; exact q3, by rw [h3, h112]; exact q4⟩, by rw [h1, hf 3 (by decide) (by decide)]; exact q5, by rw [h14, hf 39 (by decide) (by decide)]; exact q6, ?_, ?_⟩
  · rcases hr with ⟨a, b, c, d⟩ | ⟨a, b, c, d⟩
    · rw [a, c, q7]
    · rw [a, c]; exact q7
  · rcases hr with ⟨a, b, c, d⟩ | ⟨a, b, c, d⟩
    · rw [b, d]; exact q8
    · rw [b, d, q8]
theorem q_fault {σ t : St} (h : RA σ) (hq : sx σ t) : σ 1 6 = t 111 3 := by rw [hq.2 3 (by decide) (by decide)]; exact h.2.2.2.2.1
theorem q_status {σ t : St} (h : RA σ) (hq : sx σ t) {w : Int32} : (if w = 0 then σ 0 15 else if w = 1 then σ 0 16 else -1) = (if 0 ≤ w ∧ w ≤ 1 then t 113 w.toInt.toNat else -1) := by
  obtain ⟨-, -, -, q7, q8⟩ := h.2.2.2
  rw [hq.1 113 (by decide) (by decide) (by decide)]
  by_cases z : w = 0
  · subst z; rw [if_pos rfl, if_pos (by decide)]; exact q7
  · rw [if_neg z]
    by_cases y : w = 1
    · subst y; rw [if_pos rfl, if_pos (by decide)]; exact q8
    · rw [if_neg y, if_neg]
      intro ⟨a, b⟩
      rw [i_eq] at z y; rw [i_le] at a b
      have z0 : (0 : Int32).toInt = 0 := rfl
      have z1 : (1 : Int32).toInt = 1 := rfl
      omega
theorem q_count {σ t : St} (h : RA σ) (hq : sx σ t) {w : Int32} : (if w = 0 then σ 102 4 else if w = 1 then σ 1 1 else if w = 2 then σ 102 3 else -1) = (if w = 0 then t 111 40 else if w = 1 then t 111 1 else if w = 2 then t 111 38 else -1) := by
  obtain ⟨-, -, ⟨⟨w', hW⟩, i, hI⟩, hQ⟩ := h
  rw [hq.2 40 (by decide) (by decide), hq.2 1 (by decide) (by decide), hq.2 38 (by decide) (by decide), hI.2.1, hI.2.2.1, hQ.1.1, hW.2.1, hW.2.2.1]
/-! feed -/
theorem sh8 {v : Int32} : ∀ k : Fin 4, (v.toUInt32 >>> ((nI (8 * k.val)).toUInt32 &&& Int32.toUInt32 31)).toInt32 &&& 255 = (v >>> (nI (8 * k.val) &&& 31)) &&& 255 := by
  intro k
  apply gB_ext
  intro b hb
  rw [gB_and, gB_and]
  by_cases q : b < 8
  · have e : gB (v.toUInt32 >>> ((nI (8 * k.val)).toUInt32 &&& Int32.toUInt32 31)).toInt32 b = gB (v >>> (nI (8 * k.val) &&& 31)) b := by
      have hk : (k = 0 ∨ k = 1) ∨ (k = 2 ∨ k = 3) := by omega
      have h1 : ∀ (m : Nat) (w : BitVec 32), m ≤ 24 → w.toNat = m → (v.toBitVec >>> m).getLsbD b = (v.toBitVec.sshiftRight' w).getLsbD b := fun m w hm hw => by
        rw [BitVec.getLsbD_ushiftRight, BitVec.getLsbD_sshiftRight', hw, if_pos (show m + b < 32 by omega), decide_eq_false (show ¬ 32 ≤ b by omega)]
        rfl
      rcases hk with (z | z) | (z | z) <;> subst z
      · exact h1 0 0#32 (by decide) rfl
      · exact h1 8 8#32 (by decide) rfl
      · exact h1 16 16#32 (by decide) rfl
      · exact h1 24 24#32 (by decide) rfl
    rw [e]
  · have e : ∀ c : Fin 32, 8 ≤ c.val → gB (255 : Int32) c.val = false := by decide +kernel
    have e2 : gB (255 : Int32) b = false := e ⟨b, hb⟩ (show 8 ≤ b by omega)
    rw [e2, Bool.and_false, Bool.and_false]
theorem tap_e {s : St} {v : Int32} {j k : Nat} (h : s 1 1 = nI j) (hj : j < 600) (hk : k < 4) : tap s v (nI (8 * k)) = up (up s 3 j ((v >>> (nI (8 * k) &&& 31)) &&& 255)) 1 1 (nI (j + 1)) := by
  have e8 := sh8 (v := v) ⟨k, hk⟩
  unfold tap
  rw [show (v.toUInt32 >>> ((nI (8 * k)).toUInt32 &&& Int32.toUInt32 31)).toInt32 &&& 255 = (v >>> (nI (8 * k) &&& 31)) &&& 255 from e8, h, rs_nI hj (by decide)]
  rw [show up s (2 + 1) j ((v >>> (nI (8 * k) &&& 31)) &&& 255) 1 1 = nI j from (by rw [up_o (by decide)]; exact h), nI_s]
/-- how far to shift for the k-th byte -/
def shk (k : Nat) : Nat := 3 - k % 4
def fdK (s : St) (a b c d e : Int32) (n : Nat) : St := it (fun k s => tap s (fbv a b c d e k) (nI (8 * shk k))) s n
theorem fdK_4 {s : St} {a b c d e : Int32} : fdK s a b c d e 4 = fdS s a := by
  show tap (tap (tap (tap s (fbv a b c d e 0) (nI (8 * shk 0))) (fbv a b c d e 1) (nI (8 * shk 1))) (fbv a b c d e 2) (nI (8 * shk 2))) (fbv a b c d e 3) (nI (8 * shk 3)) = _
  unfold fdS
  rw [show fbv a b c d e 0 = a from rfl, show fbv a b c d e 1 = a from rfl, show fbv a b c d e 2 = a from rfl, show fbv a b c d e 3 = a from rfl, show nI (8 * shk 0) = 24 from by decide, show nI (8 * shk 1) = 16 from by decide, show nI (8 * shk 2) = 8 from by decide, show nI (8 * shk 3) = 0 from by decide]
theorem fdK_8 {s : St} {a b c d e : Int32} : fdK s a b c d e 8 = fdS (fdK s a b c d e 4) b := by
  show tap (tap (tap (tap (fdK s a b c d e 4) (fbv a b c d e 4) (nI (8 * shk 4))) (fbv a b c d e 5) (nI (8 * shk 5))) (fbv a b c d e 6) (nI (8 * shk 6))) (fbv a b c d e 7) (nI (8 * shk 7)) = _
  unfold fdS
  rw [show fbv a b c d e 4 = b from rfl, show fbv a b c d e 5 = b from rfl, show fbv a b c d e 6 = b from rfl, show fbv a b c d e 7 = b from rfl, show nI (8 * shk 4) = 24 from by decide, show nI (8 * shk 5) = 16 from by decide, show nI (8 * shk 6) = 8 from by decide, show nI (8 * shk 7) = 0 from by decide]
theorem fdK_12 {s : St} {a b c d e : Int32} : fdK s a b c d e 12 = fdS (fdK s a b c d e 8) c := by
  show tap (tap (tap (tap (fdK s a b c d e 8) (fbv a b c d e 8) (nI (8 * shk 8))) (fbv a b c d e 9) (nI (8 * shk 9))) (fbv a b c d e 10) (nI (8 * shk 10))) (fbv a b c d e 11) (nI (8 * shk 11)) = _
  unfold fdS
  rw [show fbv a b c d e 8 = c from rfl, show fbv a b c d e 9 = c from rfl, show fbv a b c d e 10 = c from rfl, show fbv a b c d e 11 = c from rfl, show nI (8 * shk 8) = 24 from by decide, show nI (8 * shk 9) = 16 from by decide, show nI (8 * shk 10) = 8 from by decide, show nI (8 * shk 11) = 0 from by decide]
theorem fdK_16 {s : St} {a b c d e : Int32} : fdK s a b c d e 16 = fdS (fdK s a b c d e 12) d := by
  show tap (tap (tap (tap (fdK s a b c d e 12) (fbv a b c d e 12) (nI (8 * shk 12))) (fbv a b c d e 13) (nI (8 * shk 13))) (fbv a b c d e 14) (nI (8 * shk 14))) (fbv a b c d e 15) (nI (8 * shk 15)) = _
  unfold fdS
  rw [show fbv a b c d e 12 = d from rfl, show fbv a b c d e 13 = d from rfl, show fbv a b c d e 14 = d from rfl, show fbv a b c d e 15 = d from rfl, show nI (8 * shk 12) = 24 from by decide, show nI (8 * shk 13) = 16 from by decide, show nI (8 * shk 14) = 8 from by decide, show nI (8 * shk 15) = 0 from by decide]
theorem fdK_20 {s : St} {a b c d e : Int32} : fdK s a b c d e 20 = fdS (fdK s a b c d e 16) e := by
  show tap (tap (tap (tap (fdK s a b c d e 16) (fbv a b c d e 16) (nI (8 * shk 16))) (fbv a b c d e 17) (nI (8 * shk 17))) (fbv a b c d e 18) (nI (8 * shk 18))) (fbv a b c d e 19) (nI (8 * shk 19)) = _
  unfold fdS
  rw [show fbv a b c d e 16 = e from rfl, show fbv a b c d e 17 = e from rfl, show fbv a b c d e 18 = e from rfl, show fbv a b c d e 19 = e from rfl, show nI (8 * shk 16) = 24 from by decide, show nI (8 * shk 17) = 16 from by decide, show nI (8 * shk 18) = 8 from by decide, show nI (8 * shk 19) = 0 from by decide]
theorem fdK_e {s : St} {a b c d e : Int32} : fdS (fdS (fdS (fdS (fdS s a) b) c) d) e = fdK s a b c d e 20 := by rw [fdK_20, fdK_16, fdK_12, fdK_8, fdK_4]
theorem fby_e {a b c d e : Int32} : ∀ k, k < 20 → fby a b c d e k = (fbv a b c d e k >>> (nI (8 * shk k) &&& 31)) &&& 255 := by
  intro k hk
  have h : ∀ k : Fin 20, (24 - 8 * (nI k.val - nI k.val / 4 * 4)) = nI (8 * shk k.val) := by decide +kernel
  unfold fby
  rw [h ⟨k, hk⟩]
theorem fd_run {s u : St} {a b c d e : Int32} {t : Nat} (h1 : s 1 1 = nI t) (hb : s 3 = u 112) (ht : t + 20 ≤ 600) : ∀ n, n ≤ 20 → fdK s a b c d e n 1 1 = nI (t + n) ∧ fdK s a b c d e n 3 = fdm u t (fby a b c d e) n 112 ∧ (∀ o, o ≠ 1 → o ≠ 3 → fdK s a b c d e n o = s o) ∧ (∀ k, k ≠ 1 → fdK s a b c d e n 1 k = s 1 k) ∧ (∀ o, o ≠ 111 → o ≠ 112 → fdm u t (fby a b c d e) n o = u o) ∧ ∀ k, k ≠ 1 → fdm u t (fby a b c d e) n 111 k = u 111 k := by
  intro n
  induction n with
  | zero => intro _; exact ⟨h1, hb, fun _ _ _ => rfl, fun _ _ => rfl, fun _ _ _ => rfl, fun _ _ => rfl⟩
  | succ n ih =>
    intro hn
    obtain ⟨i1, i2, i3, i4, i5, i6⟩ := ih (by omega)
    have eC : fdK s a b c d e (n + 1) = up (up (fdK s a b c d e n) 3 (t + n) (fby a b c d e n)) 1 1 (nI (t + n + 1)) := by
      show tap (fdK s a b c d e n) (fbv a b c d e n) (nI (8 * shk n)) = _
      rw [tap_e i1 (by omega) (by unfold shk; omega), ← fby_e n (by omega)]
    have eR : fdm u t (fby a b c d e) (n + 1) = up (up (fdm u t (fby a b c d e) n) 112 (t + n) (fby a b c d e n)) 111 1 (nI (t + n + 1)) := rfl
    rw [eC, eR]
    refine ⟨by rw [up_rd]; rfl, ?_, fun o x y => ?_, fun k x => ?_, fun o x y => ?_, fun k x => ?_⟩
    · rw [up_o (by decide), up_row, up_o (by decide), up_row, i2]
    · rw [up_o x, up_o y]; exact i3 o x y
    · rw [up_k x, up_o (by decide)]; exact i4 k x
    · rw [up_o x, up_o y]; exact i5 o x y
    · rw [up_k x, up_o (by decide)]; exact i6 k x
theorem RA_feed {σ : St} (h : RA σ) {a b c d e : Int32} {t : Nat} (ht : σ 111 1 = nI t) (h20 : t + 20 ≤ 600) : RA (fdm (t0 (fdS (fdS (fdS (fdS (fdS σ a) b) c) d) e)) t (fby a b c d e) 20) ∧ fdS (fdS (fdS (fdS (fdS σ a) b) c) d) e 1 1 = nI (t + 20) := by
  rw [fdK_e]
  obtain ⟨⟨q1, q2, q3, q4⟩, q5, q6, q7, q8⟩ := h.2.2.2
  have hb0 : σ 3 = (t0 (fdK σ a b c d e 20)) 112 := by
    have := (fd_run (s := σ) (u := σ) (a := a) (b := b) (c := c) (d := d) (e := e) (q1.trans ht) q4 h20 20 (Nat.le_refl _)).2.2.1 112 (by decide) (by decide)
    unfold t0; rw [up_o (by decide), this]; exact q4
  obtain ⟨i1, i2, i3, i4, i5, i6⟩ := fd_run (s := σ) (u := t0 (fdK σ a b c d e 20)) (a := a) (b := b) (c := c) (d := d) (e := e) (q1.trans ht) hb0 h20 20 (Nat.le_refl _)
  have e1 : fdm (t0 (fdK σ a b c d e 20)) t (fby a b c d e) 20 111 1 = nI (t + 20) := by
    refine fdm_1 ?_
    unfold t0; rw [up_k (by decide), i3 111 (by decide) (by decide)]; exact ht
  have ro : ∀ o, o ≠ 1 → o ≠ 3 → o ≠ 111 → o ≠ 112 → fdm (t0 (fdK σ a b c d e 20)) t (fby a b c d e) 20 o = σ o := fun o x y z w => by
    rw [i5 o z w]; unfold t0; rw [up_o z]; exact i3 o x y
  have rf : ∀ f, f ≠ 0 → f ≠ 1 → fdm (t0 (fdK σ a b c d e 20)) t (fby a b c d e) 20 111 f = σ 111 f := fun f x y => by
    rw [i6 f y]; unfold t0; rw [up_k x, i3 111 (by decide) (by decide)]
  have r1 : ∀ k, fdm (t0 (fdK σ a b c d e 20)) t (fby a b c d e) 20 1 k = fdK σ a b c d e 20 1 k := fun k => by
    rw [i5 1 (by decide) (by decide)]; unfold t0; rw [up_o (by decide)]
  refine ⟨RA_fr h (fun o ho => ro o (by omega) (by omega) (by omega) (by omega)) (by rw [ro 68 (by decide) (by decide) (by decide) (by decide)]) (by rw [ro 102 (by decide) (by decide) (by decide) (by decide)]) (by rw [ro 102 (by decide) (by decide) (by decide) (by decide)]) (fun f hf => rf f (by omega) (by omega)) ⟨⟨?_, ?_, ?_, ?_⟩, ?_, ?_, ?_, ?_⟩, i1⟩
  · rw [r1, i1, e1]
  · rw [e1, i_nI (by omega)]; omega
  · rw [e1, i_nI (by omega)]; omega
  · rw [i5 3 (by decide) (by decide)]; unfold t0; rw [up_o (by decide)]; exact i2
  · rw [r1, i4 6 (by decide), rf 3 (by decide) (by decide)]; exact q5
  · rw [ro 0 (by decide) (by decide) (by decide) (by decide), rf 39 (by decide) (by decide)]; exact q6
  · rw [ro 0 (by decide) (by decide) (by decide) (by decide), ro 113 (by decide) (by decide) (by decide) (by decide)]; exact q7
  · rw [ro 0 (by decide) (by decide) (by decide) (by decide), ro 113 (by decide) (by decide) (by decide) (by decide)]; exact q8
