/-! ===== the reference: its arrays; its state's bounds ===== -/
def isArr (o n : Nat) : Prop := (o < 610 ∧ n < 2000) ∧ ∀ (G : Gz) (f : Nat → Int32), zs G o f = zarr G n f
/-- k rows of w, from q on; the array of them is o -/
def isArs (o k q w : Nat) : Prop := (o < 610 ∧ k < 2000 ∧ w < 2000) ∧ (∀ (G : Gz) (f : Nat → Int32), zs G o f = zars G k q) ∧ ∀ i, i < k → isArr (q + i) w
def zin (i : Int32) (n k : Nat) : Prop := i.toInt = (k : Int) ∧ k < n
theorem zin_nI {j n : Nat} (h : j < n) (hn : n < 100000) : zin (nI j) n j := ⟨i_nI (by omega), h⟩
theorem zin_of {x : Int32} {n : Nat} (h1 : 0 ≤ x.toInt) (h2 : x.toInt < n) : zin x n x.toInt.toNat := ⟨by omega, by omega⟩
theorem i_ofN {n : Nat} (h : n < 2147483648) : (OfNat.ofNat n : Int32).toInt = n := Int32.toInt_ofNat_of_lt h
theorem i_add {x y : Int32} {a b : Int} (hx : x.toInt = a) (hy : y.toInt = b) (h1 : -2147483648 ≤ a + b) (h2 : a + b < 2147483648) : (x + y).toInt = a + b := by
  rw [Int32.toInt_add, hx, hy]
  exact Int.bmod_eq_of_le (by omega) (by omega)
theorem i_sub {x y : Int32} {a b : Int} (hx : x.toInt = a) (hy : y.toInt = b) (h1 : -2147483648 ≤ a - b) (h2 : a - b < 2147483648) : (x - y).toInt = a - b := by
  rw [Int32.toInt_sub, hx, hy]
  exact Int.bmod_eq_of_le (by omega) (by omega)
theorem i_mul {x y : Int32} {a b : Int} (hx : x.toInt = a) (hy : y.toInt = b) (h1 : -2147483648 ≤ a * b) (h2 : a * b < 2147483648) : (x * y).toInt = a * b := by
  rw [Int32.toInt_mul, hx, hy]
  exact Int.bmod_eq_of_le (by omega) (by omega)
theorem zin_add {c d n : Nat} (h : c + d < n) (hn : n < 100000) : zin (nI c + nI d) n (c + d) := ⟨by rw [i_add (i_nI (by omega)) (i_nI (by omega)) (by omega) (by omega)]; omega, h⟩
section MROWS
variable {l : Launch} {G : Gz} {X : Cx} {b : ByteArray} {nL k pc : Nat} {own : String} {σ : St} {ls : List (Nat × Value)} {st : List Value}
theorem zin.vp {i : Int32} {n k : Nat} (h : zin i n k) : vp_in i n ∧ i.toNatClampNeg = k := ⟨vp_inz (by have := h.1; omega) (by have := h.1; have := h.2; omega), by rw [i_clamp, h.1]; rfl⟩
theorem j_ialdk (hx : Gd G X b nL own k) {o n k9 : Nat} {i : Int32} (ha : isArr o n) (hin : zin i n k9) (d : decode b pc = .ok (.iaload, 1)) (K : J l G X nL σ (pc + 1) ls (.int (σ o k9) :: st)) : J l G X nL σ pc ls (.int i :: .ref (G.1 o) :: st) := by
  refine j_iald hx ha.1.1 (ha.2 _ _) hin.vp.1 d ?_
  rw [hin.vp.2]; exact K
theorem j_iastk (hx : Gd G X b nL own k) {o n k9 : Nat} {i v : Int32} (ha : isArr o n) (hin : zin i n k9) (d : decode b pc = .ok (.iastore, 1)) (K : J l G X nL (up σ o k9 v) (pc + 1) ls st) : J l G X nL σ pc ls (.int v :: .int i :: .ref (G.1 o) :: st) := by
  refine j_iast hx ha.1.1 (fun f => ha.2 _ f) hin.vp.1 d ?_
  rw [hin.vp.2]; exact K
theorem j_aaldk (hx : Gd G X b nL own k) {o n q k9 : Nat} {i : Int32} (ho : o < 610) (he : zs G o (σ o) = zars G n q) (hin : zin i n k9) (d : decode b pc = .ok (.aaload, 1)) (K : J l G X nL σ (pc + 1) ls (.ref (G.1 (q + k9)) :: st)) : J l G X nL σ pc ls (.int i :: .ref (G.1 o) :: st) := by
  refine j_aald hx ho he hin.vp.1 d ?_
  rw [hin.vp.2]; exact K
theorem j_ldcw (hx : Gd G X b nL own k) {index : Nat} {v : Int32} (t : Cond.constant own index v ∈ TB) (d : decode b pc = .ok (.ldc_w index, 3)) (K : J l G X nL σ (pc + 3) ls (.int v :: st)) : J l G X nL σ pc ls st := fun H locs la hz hl => lv_ldcw hx.1 hx.2.1 hx.2.2.2.1 (hx.2.2.2.2.1 _ t) d (K H locs la hz hl)
end MROWS
theorem ia_112 : isArr 112 600 := ⟨by decide, fun G f => sh_112 G f⟩
theorem ia_113 : isArr 113 2 := ⟨by decide, fun G f => sh_113 G f⟩
theorem ia_114 : isArr 114 6 := ⟨by decide, fun G f => sh_114 G f⟩
theorem ia_115 : isArr 115 6 := ⟨by decide, fun G f => sh_115 G f⟩
theorem ia_116 : isArr 116 12 := ⟨by decide, fun G f => sh_116 G f⟩
theorem ia_117 : isArr 117 12 := ⟨by decide, fun G f => sh_117 G f⟩
theorem ia_118 : isArr 118 6 := ⟨by decide, fun G f => sh_118 G f⟩
theorem ia_119 : isArr 119 6 := ⟨by decide, fun G f => sh_119 G f⟩
theorem ia_120 : isArr 120 160 := ⟨by decide, fun G f => sh_120 G f⟩
theorem ia_121 : isArr 121 9 := ⟨by decide, fun G f => sh_121 G f⟩
theorem ia_122 : isArr 122 31 := ⟨by decide, fun G f => sh_122 G f⟩
theorem ia_123 : isArr 123 31 := ⟨by decide, fun G f => sh_123 G f⟩
theorem ias_readLight : isArs 124 6 137 2 := ⟨by decide, fun G f => sh_124 G f, fun i hi => ⟨⟨by omega, by decide⟩, fun G f => sb_readLight hi G f⟩⟩
theorem ias_light : isArs 125 6 143 2 := ⟨by decide, fun G f => sh_125 G f, fun i hi => ⟨⟨by omega, by decide⟩, fun G f => sb_light hi G f⟩⟩
theorem ias_readDonkey : isArs 126 3 149 2 := ⟨by decide, fun G f => sh_126 G f, fun i hi => ⟨⟨by omega, by decide⟩, fun G f => sb_readDonkey hi G f⟩⟩
theorem ias_donkey : isArs 127 3 152 2 := ⟨by decide, fun G f => sh_127 G f, fun i hi => ⟨⟨by omega, by decide⟩, fun G f => sb_donkey hi G f⟩⟩
theorem ias_readShip : isArs 128 6 155 4 := ⟨by decide, fun G f => sh_128 G f, fun i hi => ⟨⟨by omega, by decide⟩, fun G f => sb_readShip hi G f⟩⟩
theorem ias_ship : isArs 129 6 161 4 := ⟨by decide, fun G f => sh_129 G f, fun i hi => ⟨⟨by omega, by decide⟩, fun G f => sb_ship hi G f⟩⟩
theorem ias_law : isArs 130 160 167 2 := ⟨by decide, fun G f => sh_130 G f, fun i hi => ⟨⟨by omega, by decide⟩, fun G f => sb_law hi G f⟩⟩
theorem ias_readLaw : isArs 131 160 327 2 := ⟨by decide, fun G f => sh_131 G f, fun i hi => ⟨⟨by omega, by decide⟩, fun G f => sb_readLaw hi G f⟩⟩
theorem ias_log : isArs 132 12 487 2 := ⟨by decide, fun G f => sh_132 G f, fun i hi => ⟨⟨by omega, by decide⟩, fun G f => sb_log hi G f⟩⟩
theorem ias_readLog : isArs 133 12 499 2 := ⟨by decide, fun G f => sh_133 G f, fun i hi => ⟨⟨by omega, by decide⟩, fun G f => sb_readLog hi G f⟩⟩
theorem ias_step : isArs 134 80 511 4 := ⟨by decide, fun G f => sh_134 G f, fun i hi => ⟨⟨by omega, by decide⟩, fun G f => sb_step hi G f⟩⟩
theorem ias_before : isArs 135 16 591 31 := ⟨by decide, fun G f => sh_135 G f, fun i hi => ⟨⟨by omega, by decide⟩, fun G f => sb_before hi G f⟩⟩
theorem ias_kept : isArs 136 3 607 528 := ⟨by decide, fun G f => sh_136 G f, fun i hi => ⟨⟨by omega, by decide⟩, fun G f => sb_kept hi G f⟩⟩
