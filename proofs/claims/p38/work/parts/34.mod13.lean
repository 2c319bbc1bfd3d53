/-- the farthest among those above i, so far -/
def farI (F : fS) (p b i : Int) : Prop := 0 ≤ b ∧ b < F 6 0 ∧ frt F p = frt F b ∧ ((b = p ∧ ∀ o, i < o → o < F 6 0 → frt F p = frt F o → faw F p o ≤ 0) ∨ (i < b ∧ 0 < faw F p b ∧ ∀ o, i < o → o < F 6 0 → frt F p = frt F o → faw F p o ≤ faw F p b ∧ (faw F p o = faw F p b → b ≤ o)))
theorem farI.is {F : fS} {p b : Int} (h : farI F p b (-1)) : isFar F p b := by
  obtain ⟨a1, a2, a3, a4⟩ := h
  refine ⟨a1, a2, a3, ?_⟩
  rcases a4 with ⟨e, a4⟩ | ⟨e1, e2, a4⟩
  · exact Or.inl ⟨e, fun o o0 o1 o2 => a4 o (by omega) o1 o2⟩
  · exact Or.inr ⟨e2, fun o o0 o1 o2 => a4 o (by omega) o1 o2⟩
/-- answers some x, and leaves some state, of which Q holds -/
def jWp (S : jSc) (k : Nat) (Q : Int → fS → Prop) (h : jH) : jPn := fun r h' => ∃ x G', r = some (iv x) ∧ Q x G' ∧ jOb S k G' h' ∧ jEx k S.2.1 h h'
theorem jWp.i {S : jSc} {k : Nat} {Q : Int → fS → Prop} {h h' : jH} {x : Int} {G' : fS} (q : Q x G') (hG : jOb S k G' h') (hE : jEx k S.2.1 h h') : jWp S k Q h (some (iv x)) h' := ⟨x, G', rfl, q, hG, hE⟩
