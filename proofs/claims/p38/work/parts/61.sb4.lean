def iOn (j : Nat) : Int := 48 + (j % 10 : Nat)
def iTe (j : Nat) : Int := 48 + (j / 10 : Nat)
theorem jrO : ("java/lang/Integer", "DigitOnes", "[B", 3, 100, iOn) ∈ jRows := .tail _ (.tail _ (.head _))
theorem jrT : ("java/lang/Integer", "DigitTens", "[B", 3, 100, iTe) ∈ jRows := .tail _ (.tail _ (.tail _ (.head _)))
theorem iOn_e {r : Int} (h : 0 ≤ r) : iOn r.toNat = 48 + r % 10 := by
  unfold iOn
  omega
theorem iTe_e {r : Int} (h : 0 ≤ r) : iTe r.toNat = 48 + r / 10 := by
  unfold iTe
  omega
section JB4
variable {M : jMe} {R : Room} {nw : List Nat} {Z : jFin} {pc : Nat} {L : List (Nat × Value)} {st : List Value} {h : jH} {nc ns : Nat}
theorem j_sldBn {i9 i : Nat} {k4 : Fin 4} {n : String} {x : Int} {f : Nat → Int} (hq : ("java/lang/Integer", n, "[B", 3, 100, f) ∈ jRows) (hl : Cond.fieldLink M.1.cls i9 "java/lang/Integer" n "[B" ∈ jWL) (hd : decode M.2.1 pc = .ok (.getstatic i9, 3)) (hd2 : decode M.2.1 (pc + 3) = .ok (.iload_n k4, 1)) (hd4 : decode M.2.1 (pc + 4) = .ok (.ineg, 1)) (hd3 : decode M.2.1 (pc + 5) = .ok (.baload, 1)) (hi : (k4 : Nat) = i) (hv : L.lookup i = some (iv (-x))) (hx : 0 ≤ x ∧ x < 100) (kk : J M R nw Z (pc + 6) L (iv (f x.toNat) :: st) h nc ns) : J M R nw Z pc L st h nc ns := by
  intro p l e s m args below meth c H locs ls D cy ad ad0 bs hX
  have w := kk p l e s m args below meth c H locs ls D cy ad ad0 bs hX
  obtain ⟨⟨y1, y2, y3, y4, y5⟩, x2, x3, x4, x5, x6, x7, x8, -⟩ := hX
  obtain ⟨-, -, s3, -⟩ := x3
  obtain ⟨tA, hZ, hT⟩ := s3 _ hq
  refine va_gets y1 y2 (v := .ref tA) hZ x5 y4 (y5 _ hl) (fun _ q => q) hd ?_
  refine lv_iload_n y1 y2 hd2 hi (jL_at x8 hv) ?_
  refine lv_ineg y1 y2 hd4 ?_
  obtain ⟨cell, c1, c2, c3, c4, c5, c6, c7⟩ := hT
  have hlt : x.toNat < 100 := by omega
  have hn := j_nat hx.1 (by omega : x ≤ 2147483647)
  rw [j_oneg, Int32.neg_neg]
  refine W.bald (v := iv (f x.toNat)) y1 y2 (by rw [x5.2.1 tA (Array.getElem?_eq_some_iff.mp c1).1 c7]; exact c1) c2 c3 (fun q => ?_) (by rw [hn]; exact c6 x.toNat hlt) rfl rfl hd3 w
  rcases q with q | q
  · rw [Int32.lt_iff_toInt_lt, j_toI (by omega)] at q
    have := hx.1
    simp at q
    omega
  · rw [hn] at q
    have := hx.2
    have : 100 ≤ cell.slots.size := c4
    omega
end JB4
