/-- the other fields are the same -/
def mQ (G G' : fS) : Prop := ∀ i, ¬ (i = 0 ∨ 6 ≤ i ∧ i ≤ 12) → G' i = G i
theorem mQ.rf {G : fS} : mQ G G := fun _ _ => rfl
theorem mQ.gs {G G' : fS} {i : Nat} {f : Int → Int} (h : mQ G G') (hi : i = 0 ∨ 6 ≤ i ∧ i ≤ 12) : mQ G (gs G' i f) := fun j hj => (gs_n (show j ≠ i from fun e => hj (by omega))).trans (h j hj)
theorem mQ.gn {G G' : fS} {i : Nat} {x : Int} (h : mQ G G') (hi : i = 0 ∨ 6 ≤ i ∧ i ≤ 12) : mQ G (gn G' i x) := h.gs hi
theorem mQ.ref {G G' : fS} {a w d : Int} (h : mQ G G') : mQ G (m_refuse G' a w d).2 := (((h.gn (by omega)).gn (by omega)).gn (by omega)).gn (by omega)
/-- what an order of the reference does, beside what it should: t is the place of a refusal among its exceptions -/
def mRes (t : Int) (q : kR) (G : fS) (x : Int × fS) : Prop :=
  mK (x.2 0) = q.2.2.2 ∧ mQ G x.2 ∧
  ((-1 ≤ q.1 ∧ x.1 = q.1 ∧ x.2 6 0 = G 6 0 ∧ x.2 7 0 = G 7 0 ∧ x.2 8 0 = G 8 0 ∧ x.2 9 0 = G 9 0) ∨
   (q.1 = -2 ∧ x.2 6 0 = 1 ∧ x.2 7 0 = G 7 0 ∧ x.2 8 0 = G 8 0 ∧ x.2 9 0 = G 9 0) ∨
   (q.1 = -3 ∧ x.2 6 0 = 2 ∧ x.2 7 0 = G 7 0 ∧ x.2 8 0 = G 8 0 ∧ x.2 9 0 = G 9 0) ∨
   (q.1 = -4 ∧ x.2 6 0 = t ∧ x.2 7 0 = q.2.1 ∧ x.2 8 0 = q.2.2.1 ∧ x.2 9 0 = 1))
theorem mRes.ref {t w d : Int} {G : fS} : mRes t (kRef w d (mK (G 0))) G ((m_refuse G t w d).1, (m_refuse G t w d).2) := ⟨rfl, mQ.rf.ref, Or.inr (Or.inr (Or.inr ⟨rfl, rfl, rfl, rfl, rfl⟩))⟩
theorem mRes.ok {t a : Int} {K : fS} {G G' : fS} {x : Int} (hx : x = a) (ha : -1 ≤ a) (hK : mK (G' 0) = K) (hq : mQ G G') (h6 : G' 6 0 = G 6 0) (h7 : G' 7 0 = G 7 0) (h8 : G' 8 0 = G 8 0) (h9 : G' 9 0 = G 9 0) : mRes t (a, 0, 0, K) G (x, G') := ⟨hK, hq, Or.inl ⟨ha, hx, h6, h7, h8, h9⟩⟩
