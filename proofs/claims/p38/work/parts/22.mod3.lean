theorem faw_rg (F : fS) (p o : Int) : -48 ≤ faw F p o ∧ faw F p o ≤ 48 := by
  have h1 := fdep_rg F p
  have h2 := fdep_rg F o
  have h3 := fdep_rg F (flc F p o)
  unfold faw
  omega
def mlp : Nat → Int → Int
  | 0, _ => 0
  | k + 1, l => if 0 < l then (l - Int.tdiv l 2 * 2) + mlp k (Int.tdiv l 2) else 0
