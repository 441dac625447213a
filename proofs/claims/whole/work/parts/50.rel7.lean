/-! ===== would; the logs ===== -/
theorem tln_e {σ : St} {a b : Int32} : tln σ a b = up (up σ 56 7 a) 56 8 b := by
  unfold tln
  rw [show ∀ (u : St) (v : Int32), rs u 55 9 7 v = up u 56 7 v from fun u v => rs9 (k := 7) (by decide), show ∀ (u : St) (v : Int32), rs u 55 9 8 v = up u 56 8 v from fun u v => rs9 (k := 8) (by decide)]
theorem q_would {σ t : St} (h : RC σ) (hL : LW σ σ) (hO : lawOK σ) (hq : sx σ t) {i : Nat} (hi : i < tl σ 3) {seen dark m c n9 fg : Int32} : lwP (tls (tln σ n9 fg) (nI i) seen dark m c) ↔ 0 < mbV (knS t i seen dark m c n9 fg) := by
  have f : ∀ o, o ≠ 56 → tln σ n9 fg o = σ o := fun o ho => by rw [tln_e, up_o ho, up_o ho]
  have r : ∀ k, t (161 + i) k = σ (161 + i) k := fun k => by rw [hq.1 (161 + i) (by omega) (by omega) (by omega)]
  have qk : sx σ (knS t i seen dark m c n9 fg) := hq.tr (sq.rf.kn).x
  have hW : LW (tls (tln σ n9 fg) (nI i) seen dark m c) (knS t i seen dark m c n9 fg) := by
    refine LW_eq hL ?_ ?_ ?_ (qk.2 23 (by decide) (by decide)) (fun k _ => qk.1 _ (by omega) (by omega) (by omega))
    all_goals rw [tls_o (by decide)]; exact f _ (by decide)
  have hK : LK (tls (tln σ n9 fg) (nI i) seen dark m c) (knS t i seen dark m c n9 fg) := by
    refine kn_LK ?_ ?_ ?_ ?_ ?_
    · unfold sT; rw [f 22 (by decide), r]; exact h.s2 hi
    · unfold sD; rw [f 24 (by decide), r]; exact h.s3 hi
    · unfold sW; rw [f 20 (by decide), r]; exact h.s1 hi
    · rw [tln_e, up_k (by decide), up_rd]
    · rw [tln_e, up_rd]
  unfold lwP
  rw [law_ans hW (qk.law hO) hK]
