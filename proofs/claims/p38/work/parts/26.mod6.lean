theorem jOb.eqv {S : jSc} {k : Nat} {G G' : fS} {h : jH} (hG : jOb S k G h) (h0 : ∀ i, G' i 0 = G i 0) (h1 : ∀ (i p t n : Nat), S.2.2[i]? = some (1, p, t, n) → G' i = G i) : jOb S k G' h := by
  refine ⟨?_, fun i p t n hi => by rw [h1 i p t n hi]; exact hG.2 i p t n hi⟩
  have e : ∀ (l : List (Nat × Nat × Nat × Nat)) (j : Nat), jFls k G' j l = jFls k G j l := by
    intro l
    induction l with
    | nil => intro _; rfl
    | cons s l ih =>
      intro j
      show jFv k G' j s :: jFls k G' (j + 1) l = jFv k G j s :: jFls k G (j + 1) l
      rw [ih (j + 1)]
      congr 1
      unfold jFv
      rw [h0 j]
  rw [e]
  exact hG.1
