/-! MORE ROWS FOR THE LAW -/
section JR10
variable {M : jMe} {R : Room} {nw : List Nat} {Z : jFin} {pc pc' : Nat} {L L' : List (Nat × Value)} {st st' : List Value} {h h' : jH} {nc ns nc' ns' mc ms : Nat} {Pn : jPn} {Px : jPx}
theorem j_newarrayI {t k n : Nat} {x : Int} {at9 : ArrayType} {f : Int → Int} (hx : x = (n : Int)) (hf : f = fun _ => 0) (hd : decode M.2.1 pc = .ok (.newarray at9, 2)) (hat : newarray.typeOf at9 = jty t) (ht : t < 5) (harr : Cond.arrayClass (jty t) ∈ jWL) (hn : n ≤ 1000000) (hk : h k = none) (hkn : k ∈ nw) (hfr : jfr [k] L st) (hroom : nc + 1 ≤ R.cells ∧ ns + n ≤ R.slots)
    (kk : J M R nw Z (pc + 2) L (.ref k :: st) (jup h k (jA t n f)) (nc + 1) (ns + n)) : J M R nw Z pc L (iv x :: st) h nc ns := by
  subst hx
  exact j_newarray hf hd hat ht harr hn hk hkn hfr hroom kk
end JR10
theorem jup_u2 {h : jH} {k j : Nat} {c b d : jC} (hj : k ≠ j) : jup (jup (jup h k c) j b) k d = jup (jup h k d) j b := funext fun i => by
  unfold jup
  by_cases h1 : i = k
  · subst h1; rw [if_pos rfl, if_neg hj, if_pos rfl]
  · rw [if_neg h1, if_neg h1]
    by_cases h2 : i = j
    · rw [if_pos h2, if_pos h2]
    · rw [if_neg h2, if_neg h2, if_neg h1]
/-- an account is the same: 0 and 4 -/
theorem acc_0 {K : fS} : acc K 0 = K 6 0 := rfl
theorem acc_4 {K : fS} : acc K 4 = K 7 0 := rfl
/-- a number as an int holds it -/
def nz (x : Int) : Int := (Int32.ofInt x).toInt
theorem nz_r (x : Int) : -2147483648 ≤ nz x ∧ nz x ≤ 2147483647 := by
  have h1 := Int32.le_toInt (Int32.ofInt x)
  have h2 := Int32.toInt_lt (Int32.ofInt x)
  unfold nz
  omega
theorem iv_nz (x : Int) : iv (nz x) = iv x := by
  unfold iv nz
  rw [Int32.ofInt_toInt]
theorem jM.nz {M : jMe} {d mc ms : Nat} {nw : List Nat} {a0 : List Value} {h : jH} {x : Int} (hM : jM M d mc ms nw a0 h (jRet (iv x) h) jno) : jM M d mc ms nw a0 h (jRet (iv (nz x)) h) jno := by
  rw [iv_nz]
  exact hM
