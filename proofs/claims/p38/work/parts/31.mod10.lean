theorem jOk.up {B B' : Int} {F : fS} (h : jOk B F) (hB : B ≤ B' ∧ B' ≤ 20000000) : jOk B' F := by
  obtain ⟨a1, a2, a3, a4, a5, a6, a7, a8, a9, a10, a11, a12⟩ := h
  exact ⟨a1, a2, a3, a4, a5, fun i => ⟨(a6 i).1, Int.le_trans (a6 i).2 hB.1⟩, a7, a8, ⟨a9.1, Int.le_trans a9.2 hB.1⟩, ⟨a10.1, Int.le_trans a10.2 hB.1⟩, ⟨a11.1, Int.le_trans a11.2 hB.1⟩, hB.2⟩
