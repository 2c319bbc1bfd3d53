/-- who would be the heir -/
def fhe (F : fS) (p : Int) : Int := match (des F 24 p).find? (fun x => decide (F 3 x ≠ 0)) with
  | some x => x
  | none => if F 1 p < 0 then fne F p else F 1 p
theorem fhe_s {F : fS} {p x : Int} (h : (des F 24 p).find? (fun x => decide (F 3 x ≠ 0)) = some x) : fhe F p = x := by
  unfold fhe
  rw [h]
theorem fhe_n {F : fS} {p : Int} (h : (des F 24 p).find? (fun x => decide (F 3 x ≠ 0)) = none) : fhe F p = if F 1 p < 0 then fne F p else F 1 p := by
  unfold fhe
  rw [h]
