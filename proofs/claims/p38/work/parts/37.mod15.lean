/-- the digits of v, with k more before the last at most -/
def dgs : Nat → Int → List Int
  | 0, v => [48 + v]
  | k + 1, v => if 9 < v then dgs k (Int.tdiv v 10) ++ [48 + (v - Int.tdiv v 10 * 10)] else [48 + v]
theorem dgs_len : ∀ (k : Nat) (v : Int), (dgs k v).length ≤ k + 1
  | 0, _ => Nat.le_refl _
  | k + 1, v => by
    have := dgs_len k (Int.tdiv v 10)
    unfold dgs
    split
    · rw [List.length_append]
      show _ + 1 ≤ _
      omega
    · show 1 ≤ _
      omega
