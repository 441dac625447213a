/-! THE REFERENCE'S CONSTRUCTOR. Its arrays are made in the order of its fields: object q stands at the gof q-th place. -/
def gofL : List Nat := [0, 1, 2, 3, 4, 5, 6, 7, 8, 9, 10, 11, 12, 13, 14, 15, 16, 17, 18, 19, 20, 21, 22, 23, 24, 25, 26, 27, 28, 29, 30, 31, 32, 33, 34, 35, 36, 37, 38, 39, 40, 41, 42, 43, 44, 45, 46, 47, 48, 49, 50, 51, 52, 53, 54, 55, 56, 57, 58, 59, 60, 61, 62, 63, 64, 65, 66, 67, 68, 69, 70, 71, 72, 73, 74, 75, 76, 77, 78, 79, 80, 81, 82, 83, 84, 85, 86, 87, 88, 89, 90, 91, 92, 93, 94, 95, 96, 97, 98, 99, 100, 101, 102, 103, 104, 105, 106, 107, 108, 109, 110, 111, 112, 113, 114, 115, 116, 117, 118, 119, 504, 505, 587, 588, 120, 127, 134, 138, 142, 149, 156, 317, 478, 491, 506, 589, 606, 121, 122, 123, 124, 125, 126, 128, 129, 130, 131, 132, 133, 135, 136, 137, 139, 140, 141, 143, 144, 145, 146, 147, 148, 150, 151, 152, 153, 154, 155, 157, 158, 159, 160, 161, 162, 163, 164, 165, 166, 167, 168, 169, 170, 171, 172, 173, 174, 175, 176, 177, 178, 179, 180, 181, 182, 183, 184, 185, 186, 187, 188, 189, 190, 191, 192, 193, 194, 195, 196, 197, 198, 199, 200, 201, 202, 203, 204, 205, 206, 207, 208, 209, 210, 211, 212, 213, 214, 215, 216, 217, 218, 219, 220, 221, 222, 223, 224, 225, 226, 227, 228, 229, 230, 231, 232, 233, 234, 235, 236, 237, 238, 239, 240, 241, 242, 243, 244, 245, 246, 247, 248, 249, 250, 251, 252, 253, 254, 255, 256, 257, 258, 259, 260, 261, 262, 263, 264, 265, 266, 267, 268, 269, 270, 271, 272, 273, 274, 275, 276, 277, 278, 279, 280, 281, 282, 283, 284, 285, 286, 287, 288, 289, 290, 291, 292, 293, 294, 295, 296, 297, 298, 299, 300, 301, 302, 303, 304, 305, 306, 307, 308, 309, 310, 311, 312, 313, 314, 315, 316, 318, 319, 320, 321, 322, 323, 324, 325, 326, 327, 328, 329, 330, 331, 332, 333, 334, 335, 336, 337, 338, 339, 340, 341, 342, 343, 344, 345, 346, 347, 348, 349, 350, 351, 352, 353, 354, 355, 356, 357, 358, 359, 360, 361, 362, 363, 364, 365, 366, 367, 368, 369, 370, 371, 372, 373, 374, 375, 376, 377, 378, 379, 380, 381, 382, 383, 384, 385, 386, 387, 388, 389, 390, 391, 392, 393, 394, 395, 396, 397, 398, 399, 400, 401, 402, 403, 404, 405, 406, 407, 408, 409, 410, 411, 412, 413, 414, 415, 416, 417, 418, 419, 420, 421, 422, 423, 424, 425, 426, 427, 428, 429, 430, 431, 432, 433, 434, 435, 436, 437, 438, 439, 440, 441, 442, 443, 444, 445, 446, 447, 448, 449, 450, 451, 452, 453, 454, 455, 456, 457, 458, 459, 460, 461, 462, 463, 464, 465, 466, 467, 468, 469, 470, 471, 472, 473, 474, 475, 476, 477, 479, 480, 481, 482, 483, 484, 485, 486, 487, 488, 489, 490, 492, 493, 494, 495, 496, 497, 498, 499, 500, 501, 502, 503, 507, 508, 509, 510, 511, 512, 513, 514, 515, 516, 517, 518, 519, 520, 521, 522, 523, 524, 525, 526, 527, 528, 529, 530, 531, 532, 533, 534, 535, 536, 537, 538, 539, 540, 541, 542, 543, 544, 545, 546, 547, 548, 549, 550, 551, 552, 553, 554, 555, 556, 557, 558, 559, 560, 561, 562, 563, 564, 565, 566, 567, 568, 569, 570, 571, 572, 573, 574, 575, 576, 577, 578, 579, 580, 581, 582, 583, 584, 585, 586, 590, 591, 592, 593, 594, 595, 596, 597, 598, 599, 600, 601, 602, 603, 604, 605, 607, 608, 609]
def invL : List Nat := [0, 1, 2, 3, 4, 5, 6, 7, 8, 9, 10, 11, 12, 13, 14, 15, 16, 17, 18, 19, 20, 21, 22, 23, 24, 25, 26, 27, 28, 29, 30, 31, 32, 33, 34, 35, 36, 37, 38, 39, 40, 41, 42, 43, 44, 45, 46, 47, 48, 49, 50, 51, 52, 53, 54, 55, 56, 57, 58, 59, 60, 61, 62, 63, 64, 65, 66, 67, 68, 69, 70, 71, 72, 73, 74, 75, 76, 77, 78, 79, 80, 81, 82, 83, 84, 85, 86, 87, 88, 89, 90, 91, 92, 93, 94, 95, 96, 97, 98, 99, 100, 101, 102, 103, 104, 105, 106, 107, 108, 109, 110, 111, 112, 113, 114, 115, 116, 117, 118, 119, 124, 137, 138, 139, 140, 141, 142, 125, 143, 144, 145, 146, 147, 148, 126, 149, 150, 151, 127, 152, 153, 154, 128, 155, 156, 157, 158, 159, 160, 129, 161, 162, 163, 164, 165, 166, 130, 167, 168, 169, 170, 171, 172, 173, 174, 175, 176, 177, 178, 179, 180, 181, 182, 183, 184, 185, 186, 187, 188, 189, 190, 191, 192, 193, 194, 195, 196, 197, 198, 199, 200, 201, 202, 203, 204, 205, 206, 207, 208, 209, 210, 211, 212, 213, 214, 215, 216, 217, 218, 219, 220, 221, 222, 223, 224, 225, 226, 227, 228, 229, 230, 231, 232, 233, 234, 235, 236, 237, 238, 239, 240, 241, 242, 243, 244, 245, 246, 247, 248, 249, 250, 251, 252, 253, 254, 255, 256, 257, 258, 259, 260, 261, 262, 263, 264, 265, 266, 267, 268, 269, 270, 271, 272, 273, 274, 275, 276, 277, 278, 279, 280, 281, 282, 283, 284, 285, 286, 287, 288, 289, 290, 291, 292, 293, 294, 295, 296, 297, 298, 299, 300, 301, 302, 303, 304, 305, 306, 307, 308, 309, 310, 311, 312, 313, 314, 315, 316, 317, 318, 319, 320, 321, 322, 323, 324, 325, 326, 131, 327, 328, 329, 330, 331, 332, 333, 334, 335, 336, 337, 338, 339, 340, 341, 342, 343, 344, 345, 346, 347, 348, 349, 350, 351, 352, 353, 354, 355, 356, 357, 358, 359, 360, 361, 362, 363, 364, 365, 366, 367, 368, 369, 370, 371, 372, 373, 374, 375, 376, 377, 378, 379, 380, 381, 382, 383, 384, 385, 386, 387, 388, 389, 390, 391, 392, 393, 394, 395, 396, 397, 398, 399, 400, 401, 402, 403, 404, 405, 406, 407, 408, 409, 410, 411, 412, 413, 414, 415, 416, 417, 418, 419, 420, 421, 422, 423, 424, 425, 426, 427, 428, 429, 430, 431, 432, 433, 434, 435, 436, 437, 438, 439, 440, 441, 442, 443, 444, 445, 446, 447, 448, 449, 450, 451, 452, 453, 454, 455, 456, 457, 458, 459, 460, 461, 462, 463, 464, 465, 466, 467, 468, 469, 470, 471, 472, 473, 474, 475, 476, 477, 478, 479, 480, 481, 482, 483, 484, 485, 486, 132, 487, 488, 489, 490, 491, 492, 493, 494, 495, 496, 497, 498, 133, 499, 500, 501, 502, 503, 504, 505, 506, 507, 508, 509, 510, 120, 121, 134, 511, 512, 513, 514, 515, 516, 517, 518, 519, 520, 521, 522, 523, 524, 525, 526, 527, 528, 529, 530, 531, 532, 533, 534, 535, 536, 537, 538, 539, 540, 541, 542, 543, 544, 545, 546, 547, 548, 549, 550, 551, 552, 553, 554, 555, 556, 557, 558, 559, 560, 561, 562, 563, 564, 565, 566, 567, 568, 569, 570, 571, 572, 573, 574, 575, 576, 577, 578, 579, 580, 581, 582, 583, 584, 585, 586, 587, 588, 589, 590, 122, 123, 135, 591, 592, 593, 594, 595, 596, 597, 598, 599, 600, 601, 602, 603, 604, 605, 606, 136, 607, 608, 609]
def gof (o : Nat) : Nat := gofL.getD o 0
def inv (q : Nat) : Nat := invL.getD q 0
set_option maxRecDepth 100000 in
theorem inv_gof : ∀ o, o < 610 → inv (gof o) = o := by decide +kernel
set_option maxRecDepth 100000 in
theorem gof_inv : ∀ q, q < 610 → gof (inv q) = q := by decide +kernel
set_option maxRecDepth 100000 in
theorem gof_lt : ∀ o, o < 610 → gof o < 610 := by decide +kernel
set_option maxRecDepth 100000 in
theorem gof_id : ∀ o, o < 112 → gof o = o := by decide +kernel
theorem inv_lt : ∀ q, q < 610 → inv q < 610 := by decide +kernel
def enM (j : Nat) : Nat := inv (111 + j)
/-- the addresses of the objects -/
def zG (G : Gz) : Prop := ∀ o, o < 610 → G.1 o = G.1 0 + gof o
theorem zG.i {G : Gz} (h : zG G) : zI G := fun i j hi hj e => by
  rw [h i hi, h j hj] at e
  have e2 : gof i = gof j := by omega
  rw [← inv_gof i hi, ← inv_gof j hj, e2]
theorem zG.k {G : Gz} (h : zG G) : ∀ k, k < 112 → G.1 k = G.1 0 + k := fun k hk => by rw [h k (by omega), gof_id k hk]
theorem zG.e {G : Gz} (h : zG G) : ∀ j, j < 499 → G.1 (enM j) = G.1 (enM 0) + j := fun j hj => by
  have a := h (enM j) (inv_lt _ (by omega))
  have b := h (enM 0) (inv_lt _ (by omega))
  unfold enM at *
  rw [gof_inv _ (by omega)] at a b
  omega
/-- the class of int[][] is that of arrays of int[] -/
def zAO (G : Gz) (U : State) : Prop := ∃ k : Class, U.vm.classes[G.2.2.2.1]? = some k ∧ k.kind = .array G.2.2.1 (.array .int)
theorem zAO.moved {G : Gz} {u U : State} (hvm : u.vm.Alike U.vm) (h : zAO G u) : zAO G U := by
  obtain ⟨k, h1, h2⟩ := h
  obtain ⟨k', hk', he⟩ := hvm.2.2 _ _ h1
  exact ⟨k', hk', by rw [he]; exact h2⟩
theorem arrV_ext {c : ClassId} {N : Nat} {f g : Nat → Value} (h : ∀ j, j < N → f j = g j) : arrV c N f = arrV c N g := by
  unfold arrV
  have : (fun j : Fin N => f j.val) = fun j : Fin N => g j.val := funext fun j => h j.val j.isLt
  rw [this]
section MNA
variable {p : Program} {l : Launch} {e : Env} {R : Room} {s : State} {m : MethodId} {args : Array Value} {below : List Frame} {meth : Method} {c : Code} {H : Heap} {locs : List Loc} {cells slots : Nat} {Q : State → Prop} {cc : ByteArray} {pc : Nat} {ls : Array Slot} {rest : List Value}
/-- new int[n][k] -/
theorem W_mna (hexec : p.tables.exec = Jvm.exec) (hb : c.code = cc) {own : String} {index : Nat} (hown : s.vm.findClass own = some m.cls) (hclink : (Cond.classLink own index "[[I").before args s = true) {cA cI ci2 : ClassId} {kA kI : Class} (hcA : s.vm.findClass "[[I" = some cA) (hkA : s.vm.classes[cA]? = some kA) (hkindA : kA.kind = .array cI (.array .int)) (hkI : s.vm.classes[cI]? = some kI) (hkindI : kI.kind = .array ci2 .int)
    {n k : Int32} {N K : Nat} (hn : ¬ n < 0) (hk : ¬ k < 0) (hN : n.toNatClampNeg = N) (hK : k.toNatClampNeg = K) (hN2 : N < 100000) (hK2 : K < 100000) (hcells : cells + (1 + N) ≤ R.cells) (hslots : slots + (N + N * K) ≤ R.slots) {h : Nat} (hh : H.size = h) (hdg : decode cc pc = .ok (.multianewarray index 2, 4))
    (kk : ∀ (H' : Heap) (locs' : List Loc), H'[h]? = some (arrV cA N (fun j => .ref (h + 1 + j))) → (∀ j, j < N → H'[h + 1 + j]? = some (arrV cI K (fun _ => .int 0))) → H'.size = h + 1 + N → (∀ q, q < h → H'[q]? = H[q]?) → (∀ x ∈ locs', x ∈ locs ∨ x.base = h) →
      W p l e R s m args below meth c H' locs' (cells + 1 + N) (slots + N + N * K) Q (F0 m (pc + 4) ls (.ref h :: rest))) : W p l e R s m args below meth c H locs cells slots Q (F0 m pc ls (.int k :: .int n :: rest)) := by
  sorry
end MNA
section JCM
variable {l : Launch} {G : Gz} {X : Cx} {b : ByteArray} {nL k pc : Nat} {own : String} {τ : St} {en : Nat → Nat} {NN C S : Nat} {E : va_E} {p : Nat} {c9 n9 : Nat} {ls : List (Nat × Value)} {st : List Value}
theorem jc_mna (hx : Gk G X b nL own k en NN C S) (hAO : zAO G (xs X)) {index : Nat} {n k9 : Int32} {N K o1 q0 : Nat} (t1 : Cond.classLink own index "[[I" ∈ TB) (hn : ¬ n < 0) (hk : ¬ k9 < 0) (hN : n.toNatClampNeg = N) (hK : k9.toNatClampNeg = K) (hN2 : N < 100000) (hK2 : K < 100000) (h1o : en p = o1) (h2o : ∀ j, j < N → en (p + 1 + j) = q0 + j) (ha : isArs o1 N q0 K) (hz0 : ∀ j, j < N → τ (q0 + j) = fun _ => 0) (hp : 1 ≤ p) (hpn : p + N < NN) (hc : c9 + 1 = p) (hC9 : c9 + (1 + N) ≤ C) (hS9 : n9 + (N + N * K) ≤ S) (d : decode b pc = .ok (.multianewarray index 2, 4))
    (K9 : JC l G X nL τ en E (p + 1 + N) none (c9 + 1 + N) (n9 + N + N * K) (pc + 4) ls (.ref (G.1 o1) :: st)) : JC l G X nL τ en E p none c9 n9 pc ls (.int k9 :: .int n :: st) := by
  intro H locs la hz hl
  refine W_sz (fun hs => ?_)
  have hH := jc_size hx hp (by omega) hz.1 hc hs
  obtain ⟨h1, h2, h3, h4, h5, h6, h7, h8, h9, h10, h11, h12, h13, h14⟩ := hx
  obtain ⟨kA, hkA, hkindA⟩ := hAO
  obtain ⟨-, kI, hkI, ci2, hkindI⟩ := (h8.2 0 _ rfl).1 1 (fun _ => .int 0)
  refine W_mna h1 h2 h4 (h5 _ t1) (h8.2 1 _ rfl).2 hkA hkindA hkI hkindI hn hk hN hK hN2 hK2 (by rw [h13]; exact hC9) (by rw [h14]; exact hS9) hH d fun H1 locs1 e1 e2 z1 o9 hlo => ?_
  have kp : ∀ q : Nat × va_E, va_at G.2.1 zcl q H → va_at G.2.1 zcl q H1 := fun q hq => hq.kept (o9 q.1 (by rw [← hH]; exact hq.lt))
  have ep := h11 p (by omega)
  rw [h1o] at e1 e2 z1 o9 hlo ep hH ⊢
  refine K9 H1 locs1 la ⟨⟨kp _ hz.1.1, fun j a c => ?_, fun ci' e => by cases e⟩, ⟨Nat.le_trans hz.2.1 (by omega), fun x a c => (o9 x (by rw [← hH]; exact Nat.lt_of_lt_of_le a hz.2.1)).trans (hz.2.2.1 x a c), fun x hx9 => (hlo x hx9).elim (hz.2.2.2 x) (fun z => by rw [z, ep]; exact Nat.le_add_right _ _)⟩⟩ hl
  by_cases hj : j < p
  · exact kp _ (hz.1.2.1 j a hj)
  · by_cases hjp : j = p
    · subst hjp
      rw [h1o, ha.2.1]
      show H1[G.1 o1]? = some (vp_cell G.2.2.2.1 _)
      rw [vp_cell_q, e1]
      congr 1
      refine arrV_ext fun i hi => ?_
      show Value.ref (G.1 o1 + 1 + i) = Value.ref (G.1 (q0 + i))
      have e7 : G.1 (en (j + 1 + i)) = G.1 (en 0) + (j + 1 + i) := h11 (j + 1 + i) (by omega)
      have e8 : G.1 o1 + 1 + i = G.1 (en (j + 1 + i)) := by omega
      rw [← h2o i hi, e8]
    · have hi : j - (p + 1) < N := by omega
      have e9 := e2 _ hi
      have ej : en j = q0 + (j - (p + 1)) := by rw [← h2o _ hi]; congr 1; omega
      have eg : G.1 o1 + 1 + (j - (p + 1)) = G.1 (en j) := by rw [h11 j (by omega), ep]; omega
      rw [eg] at e9
      rw [ej] at e9 ⊢
      rw [(ha.2.2 _ hi).2, hz0 _ hi]
      show H1[G.1 (q0 + (j - (p + 1)))]? = some (vp_cell G.2.2.1 _)
      rw [vp_cell_i]
      exact e9
theorem JC.stk {st' : List Value} (h : st = st') {pd : Option Nat} (K : JC l G X nL τ en E p pd c9 n9 pc ls st') : JC l G X nL τ en E p pd c9 n9 pc ls st := h ▸ K
end JCM
