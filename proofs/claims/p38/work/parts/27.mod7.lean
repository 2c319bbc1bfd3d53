theorem gs_gs {G : fS} {i : Nat} {f g : Int → Int} : gs (gs G i f) i g = gs G i g := by
  funext j
  by_cases h : j = i
  · rw [h, gs_s, gs_s]
  · rw [gs_n h, gs_n h, gs_n h]
theorem gs_id {G : fS} {i : Nat} {f : Int → Int} (h : G i = f) : gs G i f = G := by
  funext j
  by_cases hj : j = i
  · rw [hj, gs_s, h]
  · rw [gs_n hj]
noncomputable def m_tells (G : fS) : fS := gs G 12 fun p => if 0 ≤ p ∧ p < G 0 0 then fho (mK (G 0)) p else G 12 p
