def mOb (X : fS) : Prop := ∀ j, 0 ≤ X 20 j ∧ X 20 j ≤ 999
