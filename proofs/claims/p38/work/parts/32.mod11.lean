/-- whether p and o quarrel, from the place i on, within k -/
def mdq (K : fS) (p o : Int) : Nat → Int → Bool
  | 0, _ => false
  | k + 1, i => (decide (K 4 i = p ∨ K 5 i = p) && decide (K 4 i = o ∨ K 5 i = o)) || mdq K p o k (i + 1)
theorem mdq_t {K : fS} {p o i : Int} {k : Nat} (h1 : K 4 i = p ∨ K 5 i = p) (h2 : K 4 i = o ∨ K 5 i = o) : mdq K p o (k + 1) i = true := by
  show ((decide (K 4 i = p ∨ K 5 i = p) && decide (K 4 i = o ∨ K 5 i = o)) || _) = true
  rw [decide_eq_true h1, decide_eq_true h2]
  rfl
theorem mdq_f {K : fS} {p o i : Int} {k : Nat} (h : ¬ ((K 4 i = p ∨ K 5 i = p) ∧ (K 4 i = o ∨ K 5 i = o))) : mdq K p o (k + 1) i = mdq K p o k (i + 1) := by
  show ((decide (K 4 i = p ∨ K 5 i = p) && decide (K 4 i = o ∨ K 5 i = o)) || _) = _
  by_cases h1 : K 4 i = p ∨ K 5 i = p
  · rw [decide_eq_false fun q => h ⟨h1, q⟩, Bool.and_false, Bool.false_or]
  · rw [decide_eq_false h1, Bool.false_and, Bool.false_or]
