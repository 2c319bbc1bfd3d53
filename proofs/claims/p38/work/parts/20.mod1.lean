theorem bi_r32 (c : Prop) [Decidable c] : -2147483648 ≤ bi c ∧ bi c ≤ 2147483647 := by have := bi_rg c; omega
def m_keep (G : fS) : fS := gs (gn G 6 0) 1 (jcpy (G 0) (G 1) 0 0 141)
def m_ends (G : fS) (a : Int) : Int × fS := if (G 6 0) ≤ 0 then if (G 5 0) = 8 then (a, gn (gs (gn (gs G 4 (jcpy (G 4) (G 4) 141 0 987)) 5 ((G 5 0) - 1)) 4 (jcpy (G 1) (jcpy (G 4) (G 4) 141 0 987) 0 (141 * ((G 5 0) - 1)) 141)) 5 (((G 5 0) - 1) + 1)) else (a, gn (gs G 4 (jcpy (G 1) (G 4) 0 (141 * (G 5 0)) 141)) 5 ((G 5 0) + 1)) else (0, gs G 0 (jcpy (G 1) (G 0) 0 0 141))
def m_refuse (G : fS) (a w d : Int) : Int × fS := (0, gn (gn (gn (gn G 6 a) 9 1) 7 w) 8 d)
