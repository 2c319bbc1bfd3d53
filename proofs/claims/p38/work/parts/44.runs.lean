/-- the orders of a text from a on, behind acc, and where it is wrong, or -1 -/
def pAll (t : Int → Int) (n : Int) : Nat → Int → List (Int × Int × Int) → List (Int × Int × Int) × Int
  | 0, _, acc => (acc, -1)
  | k + 1, a, acc => if (pOrd t n a).1 = -1 then (acc, (pOrd t n a).2.2.2)
    else if (pOrd t n a).2.2.2 < n ∧ t (pOrd t n a).2.2.2 = 59 then pAll t n k ((pOrd t n a).2.2.2 + 1) (acc ++ [((pOrd t n a).1, (pOrd t n a).2.1, (pOrd t n a).2.2.1)])
    else (acc ++ [((pOrd t n a).1, (pOrd t n a).2.1, (pOrd t n a).2.2.1)], if (pOrd t n a).2.2.2 < n then (pOrd t n a).2.2.2 else -1)
theorem kdOf_0 : kdOf 0 = -1 := by decide
theorem pOrd_rg {t : Int → Int} {n a : Int} (ha : a ≤ n) : a ≤ (pOrd t n a).2.2.2 ∧ (pOrd t n a).2.2.2 ≤ n ∧ ((pOrd t n a).1 ≠ -1 → a + 1 ≤ (pOrd t n a).2.2.2) := by
  unfold pOrd
  generalize hc : kdOf (if a < n then t a else 0) = kd
  by_cases h1 : kd = -1
  · rw [if_pos h1]
    exact ⟨Int.le_refl _, ha, fun q => absurd rfl q⟩
  rw [if_neg h1]
  have han : a < n := by
    refine Decidable.not_not.mp fun q => h1 ?_
    rw [← hc, if_neg q]
    exact kdOf_0
  have r1 := pNum_rg (t := t) (n := n) 2 (-1) (a + 1) (by omega)
  have e1 : a + 1 ≤ (if kd = 0 then (0, a + 1) else pNum t n 2 (-1) (a + 1)).2 ∧ (if kd = 0 then (0, a + 1) else pNum t n 2 (-1) (a + 1)).2 ≤ n := by
    split
    · exact ⟨Int.le_refl _, by show a + 1 ≤ n; omega⟩
    · exact ⟨r1.1, r1.2.1⟩
  generalize (if kd = 0 then (0, a + 1) else pNum t n 2 (-1) (a + 1)) = q1 at e1 ⊢
  split
  · exact ⟨by dsimp only; omega, e1.2, fun q => absurd rfl q⟩
  split
  · exact ⟨by dsimp only; omega, e1.2, fun _ => e1.1⟩
  split
  · rename_i h3
    have r2 := pNum_rg (t := t) (n := n) (dgOf kd) (-1) ((pNum t n 2 (-1) (a + 1)).2 + 1) (by omega)
    split
    · exact ⟨by dsimp only; omega, r2.2.1, fun q => absurd rfl q⟩
    · exact ⟨by dsimp only; omega, r2.2.1, fun _ => by dsimp only; omega⟩
  · exact ⟨by dsimp only; omega, r1.2.1, fun q => absurd rfl q⟩
theorem kdOf_rg (c : Int) : -1 ≤ kdOf c ∧ kdOf c ≤ 8 := by
  unfold kdOf
  repeat' split
  all_goals omega
theorem pOrd_v {t : Int → Int} {n a : Int} : -1 ≤ (pOrd t n a).1 ∧ (pOrd t n a).1 ≤ 8 ∧ -1 ≤ (pOrd t n a).2.1 ∧ (pOrd t n a).2.1 ≤ 999 ∧ -1 ≤ (pOrd t n a).2.2.1 ∧ (pOrd t n a).2.2.1 ≤ 999 := by
  have k := kdOf_rg (if a < n then t a else 0)
  unfold pOrd
  generalize kdOf (if a < n then t a else 0) = kd at k ⊢
  have r1 := pNum_v2 (t := t) (n := n) (a := a + 1)
  have e1 : -1 ≤ (if kd = 0 then (0, a + 1) else pNum t n 2 (-1) (a + 1)).1 ∧ (if kd = 0 then (0, a + 1) else pNum t n 2 (-1) (a + 1)).1 ≤ 999 := by
    split
    · exact ⟨by show (-1 : Int) ≤ 0; omega, by show (0 : Int) ≤ 999; omega⟩
    · omega
  have r2 : ∀ b, -1 ≤ (pNum t n (dgOf kd) (-1) b).1 ∧ (pNum t n (dgOf kd) (-1) b).1 ≤ 999 := fun b => by
    have := pNum_v2 (t := t) (n := n) (a := b)
    have := pNum_v3 (t := t) (n := n) (a := b)
    unfold dgOf
    split <;> omega
  generalize (if kd = 0 then (0, a + 1) else pNum t n 2 (-1) (a + 1)) = q1 at e1 ⊢
  have r3 := r2 ((pNum t n 2 (-1) (a + 1)).2 + 1)
  repeat' split
  all_goals (refine ⟨?_, ?_, ?_, ?_, ?_, ?_⟩ <;> dsimp only <;> omega)
-- orders carried out, one after the other
noncomputable def kRuns : fS → List (Int × Int × Int) → kR
  | K, [] => (0, 0, 0, K)
  | K, z :: l => if (kTry K z.1 z.2.1 z.2.2).1 < -1 then kTry K z.1 z.2.1 z.2.2 else kRuns (kTry K z.1 z.2.1 z.2.2).2.2.2 l
theorem kRuns_n {K : fS} {z : Int × Int × Int} {l : List (Int × Int × Int)} (h : (kTry K z.1 z.2.1 z.2.2).1 < -1) : kRuns K (z :: l) = kTry K z.1 z.2.1 z.2.2 := if_pos h
theorem kRuns_y {K : fS} {z : Int × Int × Int} {l : List (Int × Int × Int)} (h : ¬ (kTry K z.1 z.2.1 z.2.2).1 < -1) : kRuns K (z :: l) = kRuns (kTry K z.1 z.2.1 z.2.2).2.2.2 l := if_neg h
